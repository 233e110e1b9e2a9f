def fX6_thrown (σ : St) : Option (Int32) := some (gI σ 23 0 0)
set_option maxHeartbeats 4000000 in
set_option maxRecDepth 100000 in
theorem mX6_thrown (l : Launch) (D : va_G) (dA : Nat → ClassId) (ad : Nat → Nat → Nat) (σ : St) (sz : Nat) (r : Int32) (hf : fX6_thrown σ = some r) : Met l yX6_thrown (WSy yX6_thrown cX6_thrown 1 (some .int)) ({ frames := 0, cells := 0, slots := 0, locals := 0 } : Room) (va_Pc [.ref (ad 0 0)] (fun U => U.heap.size = sz ∧ HM D dA (fun _ => True) ad σ U.heap ∧ KS D dA U)) (va_Qi (fun (x : Int32) (_ : Unit) => x = r) (fun _ t => HM D dA (WA ad (cvM σ) sz) ad σ t.heap) (WA ad (cvM σ) sz)) 0 0 (WA ad (cvM σ) sz) := by
  refine met_of (by decide) (Nat.le_of_ble_eq_true rfl) ?_
  intro p e s m below meth c ls hC hB hl
  obtain ⟨rfl, hR, hK⟩ := hB
  have hA : ∀ q : Nat, s.heap.size ≤ q → WA ad (cvM σ) s.heap.size q := fun q h => Or.inr h
  have hR := WW_fit (B := WA ad (cvM σ) s.heap.size) hR (fun f i h => WA_in h)
  have hS : va_S (WA ad (cvM σ) s.heap.size) s.heap s.heap [] := va_S.rf
  generalize WA ad (cvM σ) s.heap.size = A0 at hA hR hS ⊢
  have hC : CTX p s m _ meth c cX6_thrown 1 RX6 (some .int) := hC
  obtain ⟨hx, hb, hml, hown, hts, hr, hlk⟩ := id hC
  have hl : lv_has ls 1 [(0, .ref (ad 0 0))] := hl
  unfold fX6_thrown at hf
  refine lv_aload_n hx hb dX6_thrown_0 rfl (lv_at hl 0 rfl) ?_
  refine va_get (D := D) (ci := 7) (C := RX6) (T := TX6) (N := 22) hx hb hts iuX6 hown hK.1 (WW_one hR (f := 0) (i := 0) rfl) 0 rfl rfl 21 (by decide) (hts _ q_829) (fun _ h9 => h9) rfl dX6_thrown_1 ?_
  cases hf
  exact ret_i hC hR hS dX6_thrown_4
def fX6_in (σ : St) (a1 : Int32) (a2 : Int32) (a3 : Int32) : Option (Int32) := if a1 < a2 then some (0) else if a3 < a1 then some (0) else some (1)
set_option maxHeartbeats 4000000 in
set_option maxRecDepth 100000 in
theorem mX6_in (l : Launch) (D : va_G) (dA : Nat → ClassId) (ad : Nat → Nat → Nat) (σ : St) (sz : Nat) (a1 : Int32) (a2 : Int32) (a3 : Int32) (r : Int32) (hf : fX6_in σ a1 a2 a3 = some r) : Met l yX6_in (WSy yX6_in cX6_in 3 (some .boolean)) ({ frames := 0, cells := 0, slots := 0, locals := 0 } : Room) (va_Pc [.int a1, .int a2, .int a3] (fun U => U.heap.size = sz ∧ HM D dA (fun _ => True) ad σ U.heap ∧ KS D dA U)) (va_Qi (fun (x : Int32) (_ : Unit) => x = r) (fun _ t => HM D dA (WA ad (cvM σ) sz) ad σ t.heap) (WA ad (cvM σ) sz)) 0 0 (WA ad (cvM σ) sz) := by
  refine met_of (by decide) (Nat.le_of_ble_eq_true rfl) ?_
  intro p e s m below meth c ls hC hB hl
  obtain ⟨rfl, hR, hK⟩ := hB
  have hA : ∀ q : Nat, s.heap.size ≤ q → WA ad (cvM σ) s.heap.size q := fun q h => Or.inr h
  have hR := WW_fit (B := WA ad (cvM σ) s.heap.size) hR (fun f i h => WA_in h)
  have hS : va_S (WA ad (cvM σ) s.heap.size) s.heap s.heap [] := va_S.rf
  generalize WA ad (cvM σ) s.heap.size = A0 at hA hR hS ⊢
  have hC : CTX p s m _ meth c cX6_in 3 RX6 (some .boolean) := hC
  obtain ⟨hx, hb, hml, hown, hts, hr, hlk⟩ := id hC
  have hl : lv_has ls 3 [(0, .int a1), (1, .int a2), (2, .int a3)] := hl
  unfold fX6_in at hf
  refine lv_iload_n hx hb dX6_in_0 rfl (lv_at hl 0 rfl) ?_
  refine lv_iload_n hx hb dX6_in_1 rfl (lv_at hl 1 rfl) ?_
  refine lv_icmp_lt (tgt := 14) hx hb dX6_in_2 (by decide) (fun c1 => ?_) (fun c1 => ?_)
  · have hf := if_of_pos hf c1
    refine lv_iconst (v := 0) hx hb dX6_in_14 (by decide) ?_
    cases hf
    exact ret_z hC hR hS (by decide) dX6_in_15
  · have hf := if_of_neg hf c1
    refine lv_iload_n hx hb dX6_in_5 rfl (lv_at hl 0 rfl) ?_
    refine lv_iload_n hx hb dX6_in_6 rfl (lv_at hl 2 rfl) ?_
    refine lv_icmp_gt (tgt := 14) hx hb dX6_in_7 (by decide) (fun c2 => ?_) (fun c2 => ?_)
    · have hf := if_of_pos hf c2
      refine lv_iconst (v := 0) hx hb dX6_in_14 (by decide) ?_
      cases hf
      exact ret_z hC hR hS (by decide) dX6_in_15
    · have hf := if_of_neg hf c2
      refine lv_iconst (v := 1) hx hb dX6_in_10 (by decide) ?_
      refine lv_goto (tgt := 15) hx hb dX6_in_11 (by decide) ?_
      cases hf
      exact ret_z hC hR hS (by decide) dX6_in_15
def fX6_isMember (σ : St) (a1 : Int32) : Option (Int32) := if a1 < 0 then some (0) else if 5 ≤ a1 then some (0) else some (1)
set_option maxHeartbeats 4000000 in
set_option maxRecDepth 100000 in
theorem mX6_isMember (l : Launch) (D : va_G) (dA : Nat → ClassId) (ad : Nat → Nat → Nat) (σ : St) (sz : Nat) (a1 : Int32) (r : Int32) (hf : fX6_isMember σ a1 = some r) : Met l yX6_isMember (WSy yX6_isMember cX6_isMember 1 (some .boolean)) ({ frames := 0, cells := 0, slots := 0, locals := 0 } : Room) (va_Pc [.int a1] (fun U => U.heap.size = sz ∧ HM D dA (fun _ => True) ad σ U.heap ∧ KS D dA U)) (va_Qi (fun (x : Int32) (_ : Unit) => x = r) (fun _ t => HM D dA (WA ad (cvM σ) sz) ad σ t.heap) (WA ad (cvM σ) sz)) 0 0 (WA ad (cvM σ) sz) := by
  refine met_of (by decide) (Nat.le_of_ble_eq_true rfl) ?_
  intro p e s m below meth c ls hC hB hl
  obtain ⟨rfl, hR, hK⟩ := hB
  have hA : ∀ q : Nat, s.heap.size ≤ q → WA ad (cvM σ) s.heap.size q := fun q h => Or.inr h
  have hR := WW_fit (B := WA ad (cvM σ) s.heap.size) hR (fun f i h => WA_in h)
  have hS : va_S (WA ad (cvM σ) s.heap.size) s.heap s.heap [] := va_S.rf
  generalize WA ad (cvM σ) s.heap.size = A0 at hA hR hS ⊢
  have hC : CTX p s m _ meth c cX6_isMember 1 RX6 (some .boolean) := hC
  obtain ⟨hx, hb, hml, hown, hts, hr, hlk⟩ := id hC
  have hl : lv_has ls 1 [(0, .int a1)] := hl
  unfold fX6_isMember at hf
  refine lv_iload_n hx hb dX6_isMember_0 rfl (lv_at hl 0 rfl) ?_
  refine lv_if_lt (tgt := 13) hx hb dX6_isMember_1 (by decide) (fun c1 => ?_) (fun c1 => ?_)
  · have hf := if_of_pos hf c1
    refine lv_iconst (v := 0) hx hb dX6_isMember_13 (by decide) ?_
    cases hf
    exact ret_z hC hR hS (by decide) dX6_isMember_14
  · have hf := if_of_neg hf c1
    refine lv_iload_n hx hb dX6_isMember_4 rfl (lv_at hl 0 rfl) ?_
    refine lv_iconst (v := 5) hx hb dX6_isMember_5 (by decide) ?_
    refine lv_icmp_ge (tgt := 13) hx hb dX6_isMember_6 (by decide) (fun c2 => ?_) (fun c2 => ?_)
    · have hf := if_of_pos hf c2
      refine lv_iconst (v := 0) hx hb dX6_isMember_13 (by decide) ?_
      cases hf
      exact ret_z hC hR hS (by decide) dX6_isMember_14
    · have hf := if_of_neg hf c2
      refine lv_iconst (v := 1) hx hb dX6_isMember_9 (by decide) ?_
      refine lv_goto (tgt := 14) hx hb dX6_isMember_10 (by decide) ?_
      cases hf
      exact ret_z hC hR hS (by decide) dX6_isMember_14
def fX6_isProduct (σ : St) (a1 : Int32) : Option (Int32) := if a1 < 0 then some (0) else if 3 ≤ a1 then some (0) else some (1)
set_option maxHeartbeats 4000000 in
set_option maxRecDepth 100000 in
theorem mX6_isProduct (l : Launch) (D : va_G) (dA : Nat → ClassId) (ad : Nat → Nat → Nat) (σ : St) (sz : Nat) (a1 : Int32) (r : Int32) (hf : fX6_isProduct σ a1 = some r) : Met l yX6_isProduct (WSy yX6_isProduct cX6_isProduct 1 (some .boolean)) ({ frames := 0, cells := 0, slots := 0, locals := 0 } : Room) (va_Pc [.int a1] (fun U => U.heap.size = sz ∧ HM D dA (fun _ => True) ad σ U.heap ∧ KS D dA U)) (va_Qi (fun (x : Int32) (_ : Unit) => x = r) (fun _ t => HM D dA (WA ad (cvM σ) sz) ad σ t.heap) (WA ad (cvM σ) sz)) 0 0 (WA ad (cvM σ) sz) := by
  refine met_of (by decide) (Nat.le_of_ble_eq_true rfl) ?_
  intro p e s m below meth c ls hC hB hl
  obtain ⟨rfl, hR, hK⟩ := hB
  have hA : ∀ q : Nat, s.heap.size ≤ q → WA ad (cvM σ) s.heap.size q := fun q h => Or.inr h
  have hR := WW_fit (B := WA ad (cvM σ) s.heap.size) hR (fun f i h => WA_in h)
  have hS : va_S (WA ad (cvM σ) s.heap.size) s.heap s.heap [] := va_S.rf
  generalize WA ad (cvM σ) s.heap.size = A0 at hA hR hS ⊢
  have hC : CTX p s m _ meth c cX6_isProduct 1 RX6 (some .boolean) := hC
  obtain ⟨hx, hb, hml, hown, hts, hr, hlk⟩ := id hC
  have hl : lv_has ls 1 [(0, .int a1)] := hl
  unfold fX6_isProduct at hf
  refine lv_iload_n hx hb dX6_isProduct_0 rfl (lv_at hl 0 rfl) ?_
  refine lv_if_lt (tgt := 13) hx hb dX6_isProduct_1 (by decide) (fun c1 => ?_) (fun c1 => ?_)
  · have hf := if_of_pos hf c1
    refine lv_iconst (v := 0) hx hb dX6_isProduct_13 (by decide) ?_
    cases hf
    exact ret_z hC hR hS (by decide) dX6_isProduct_14
  · have hf := if_of_neg hf c1
    refine lv_iload_n hx hb dX6_isProduct_4 rfl (lv_at hl 0 rfl) ?_
    refine lv_iconst (v := 3) hx hb dX6_isProduct_5 (by decide) ?_
    refine lv_icmp_ge (tgt := 13) hx hb dX6_isProduct_6 (by decide) (fun c2 => ?_) (fun c2 => ?_)
    · have hf := if_of_pos hf c2
      refine lv_iconst (v := 0) hx hb dX6_isProduct_13 (by decide) ?_
      cases hf
      exact ret_z hC hR hS (by decide) dX6_isProduct_14
    · have hf := if_of_neg hf c2
      refine lv_iconst (v := 1) hx hb dX6_isProduct_9 (by decide) ?_
      refine lv_goto (tgt := 14) hx hb dX6_isProduct_10 (by decide) ?_
      cases hf
      exact ret_z hC hR hS (by decide) dX6_isProduct_14
def fX6_haircutOf_L14 (σ : St) : Nat → Int32 → Int32 → Int32 → Int32 → Option (Int32)
  | 0, _, _, _, _ => none
  | n + 1, v4, v3, v2, v1 => if 4 ≤ v4 then gd (vin (4 * v1) 8) (kst (gI σ 3 0 (4 * v1).toNatClampNeg) (fun x5 => gd (¬ x5 = 0) (kst (10 + (((((v3 - v2) * 100) + x5) - 1) / x5)) (fun x7 => if 90 ≤ x7 then some (90) else some (x7))))) else gd (vin ((4 * v1) + v4) 8) (kst (gI σ 3 0 ((4 * v1) + v4).toNatClampNeg) (fun x10 => if x10 ≤ 0 then if x10 ≤ v3 then kst (v4 + 1) (fun x13 => fX6_haircutOf_L14 σ n x13 v3 v2 v1) else kst (v4 + 1) (fun x14 => fX6_haircutOf_L14 σ n x14 x10 v2 v1) else if v2 ≤ x10 then if x10 ≤ v3 then kst (v4 + 1) (fun x17 => fX6_haircutOf_L14 σ n x17 v3 v2 v1) else kst (v4 + 1) (fun x18 => fX6_haircutOf_L14 σ n x18 x10 v2 v1) else if x10 ≤ v3 then kst (v4 + 1) (fun x20 => fX6_haircutOf_L14 σ n x20 v3 x10 v1) else kst (v4 + 1) (fun x21 => fX6_haircutOf_L14 σ n x21 x10 x10 v1)))
set_option maxHeartbeats 4000000 in
set_option maxRecDepth 100000 in
theorem wX6_haircutOf_L14 {p : Program} {l : Launch} {e : Env} {s : State} {m : MethodId} {args : Array Value} {below : List Frame} {meth : Method} {c : Code} {D : va_G} {dA : Nat → ClassId} {A0 : Nat → Prop} {ad : Nat → Nat → Nat} {r : Int32} {σ : St} (hC : CTX p s m args meth c cX6_haircutOf 6 RX6 (some .int)) (hK : KS D dA s) (hA : ∀ q, s.heap.size ≤ q → A0 q) : ∀ (n : Nat) (H : Heap) (locs : List Loc) (ls : Array Slot) (v4 : Int32) (v3 : Int32) (v2 : Int32) (v1 : Int32), HM D dA A0 ad σ H → va_S A0 s.heap H locs → lv_has ls 6 [(4, .int v4), (3, .int v3), (2, .int v2), (0, .ref (ad 0 0)), (1, .int v1)] → fX6_haircutOf_L14 σ n v4 v3 v2 v1 = some r → W p l e ({ frames := 0, cells := 0, slots := 0, locals := 0 } : Room) s m args below meth c H locs 0 0 (MQ below (va_Qi (fun (x : Int32) (_ : Unit) => x = r) (fun _ t => HM D dA A0 ad σ t.heap) A0) args s 0 0 A0) (F0 m 14 ls []) := by
  obtain ⟨hx, hb, hml, hown, hts, hr, hlk⟩ := id hC
  intro n
  induction n with
  | zero =>
    intro H locs ls v4 v3 v2 v1 hR hS hl hf
    rw [fX6_haircutOf_L14.eq_1] at hf
    cases hf
  | succ n ih =>
    intro H locs ls v4 v3 v2 v1 hR hS hl hf
    rw [fX6_haircutOf_L14.eq_2] at hf
    refine lv_iload hx hb dX6_haircutOf_14 (lv_at hl 0 rfl) ?_
    refine lv_iconst (v := 4) hx hb dX6_haircutOf_16 (by decide) ?_
    refine lv_icmp_ge (tgt := 70) hx hb dX6_haircutOf_17 (by decide) (fun c3 => ?_) (fun c3 => ?_)
    · have hf := if_of_pos hf c3
      refine lv_aload_n hx hb dX6_haircutOf_70 rfl (lv_at hl 3 rfl) ?_
      refine va_get (D := D) (ci := 7) (C := RX6) (T := TX6) (N := 22) hx hb hts iuX6 hown hK.1 (WW_one hR (f := 0) (i := 0) rfl) 0 rfl rfl 2 (by decide) (hts _ q_810) (fun _ h9 => h9) rfl dX6_haircutOf_71 ?_
      refine lv_iconst (v := 4) hx hb dX6_haircutOf_74 (by decide) ?_
      refine lv_iload_n hx hb dX6_haircutOf_75 rfl (lv_at hl 4 rfl) ?_
      refine lv_imul hx hb dX6_haircutOf_76 ?_
      obtain ⟨g4, hf⟩ := gd_of hf
      refine va_iald hx hb hK.1 (WW_one hR (f := 3) (i := 0) rfl) 0 0 rfl rfl g4 dX6_haircutOf_77 ?_
      refine lv_topi (fun x5 hx5 => ?_)
      have hf := kst_eq hx5 hf
      refine lv_istore (lv' := [(4, .int x5), (3, .int v3), (2, .int v2), (0, .ref (ad 0 0)), (1, .int v1)]) hx hb dX6_haircutOf_78 hl (by decide) rfl (fun ls hl => ?_)
      refine lv_bipush (v := 10) hx hb dX6_haircutOf_80 (by decide) ?_
      refine lv_iload_n hx hb dX6_haircutOf_82 rfl (lv_at hl 1 rfl) ?_
      refine lv_iload_n hx hb dX6_haircutOf_83 rfl (lv_at hl 2 rfl) ?_
      refine lv_isub hx hb dX6_haircutOf_84 ?_
      refine lv_bipush (v := 100) hx hb dX6_haircutOf_85 (by decide) ?_
      refine lv_imul hx hb dX6_haircutOf_87 ?_
      refine lv_iload hx hb dX6_haircutOf_88 (lv_at hl 0 rfl) ?_
      refine lv_iadd hx hb dX6_haircutOf_90 ?_
      refine lv_iconst (v := 1) hx hb dX6_haircutOf_91 (by decide) ?_
      refine lv_isub hx hb dX6_haircutOf_92 ?_
      refine lv_iload hx hb dX6_haircutOf_93 (lv_at hl 0 rfl) ?_
      obtain ⟨g6, hf⟩ := gd_of hf
      refine lv_idiv hx hb dX6_haircutOf_95 g6 ?_
      refine lv_iadd hx hb dX6_haircutOf_96 ?_
      refine lv_topi (fun x7 hx7 => ?_)
      have hf := kst_eq hx7 hf
      refine lv_istore (lv' := [(5, .int x7), (4, .int x5), (3, .int v3), (2, .int v2), (0, .ref (ad 0 0)), (1, .int v1)]) hx hb dX6_haircutOf_97 hl (by decide) rfl (fun ls hl => ?_)
      refine lv_iload hx hb dX6_haircutOf_99 (lv_at hl 0 rfl) ?_
      refine lv_bipush (v := 90) hx hb dX6_haircutOf_101 (by decide) ?_
      refine lv_icmp_ge (tgt := 111) hx hb dX6_haircutOf_103 (by decide) (fun c8 => ?_) (fun c8 => ?_)
      · have hf := if_of_pos hf c8
        refine lv_bipush (v := 90) hx hb dX6_haircutOf_111 (by decide) ?_
        cases hf
        exact ret_i hC hR hS dX6_haircutOf_113
      · have hf := if_of_neg hf c8
        refine lv_iload hx hb dX6_haircutOf_106 (lv_at hl 0 rfl) ?_
        refine lv_goto (tgt := 113) hx hb dX6_haircutOf_108 (by decide) ?_
        cases hf
        exact ret_i hC hR hS dX6_haircutOf_113
    · have hf := if_of_neg hf c3
      refine lv_aload_n hx hb dX6_haircutOf_20 rfl (lv_at hl 3 rfl) ?_
      refine va_get (D := D) (ci := 7) (C := RX6) (T := TX6) (N := 22) hx hb hts iuX6 hown hK.1 (WW_one hR (f := 0) (i := 0) rfl) 0 rfl rfl 2 (by decide) (hts _ q_810) (fun _ h9 => h9) rfl dX6_haircutOf_21 ?_
      refine lv_iconst (v := 4) hx hb dX6_haircutOf_24 (by decide) ?_
      refine lv_iload_n hx hb dX6_haircutOf_25 rfl (lv_at hl 4 rfl) ?_
      refine lv_imul hx hb dX6_haircutOf_26 ?_
      refine lv_iload hx hb dX6_haircutOf_27 (lv_at hl 0 rfl) ?_
      refine lv_iadd hx hb dX6_haircutOf_29 ?_
      obtain ⟨g9, hf⟩ := gd_of hf
      refine va_iald hx hb hK.1 (WW_one hR (f := 3) (i := 0) rfl) 0 0 rfl rfl g9 dX6_haircutOf_30 ?_
      refine lv_topi (fun x10 hx10 => ?_)
      have hf := kst_eq hx10 hf
      refine lv_istore (lv' := [(5, .int x10), (4, .int v4), (3, .int v3), (2, .int v2), (0, .ref (ad 0 0)), (1, .int v1)]) hx hb dX6_haircutOf_31 hl (by decide) rfl (fun ls hl => ?_)
      refine lv_iload hx hb dX6_haircutOf_33 (lv_at hl 0 rfl) ?_
      refine lv_if_le (tgt := 49) hx hb dX6_haircutOf_35 (by decide) (fun c11 => ?_) (fun c11 => ?_)
      · have hf := if_of_pos hf c11
        refine lv_iload_n hx hb dX6_haircutOf_49 rfl (lv_at hl 3 rfl) ?_
        refine lv_istore_n (lv' := [(2, .int v2), (5, .int x10), (4, .int v4), (3, .int v3), (0, .ref (ad 0 0)), (1, .int v1)]) hx hb dX6_haircutOf_50 rfl hl (by decide) rfl (fun ls hl => ?_)
        refine lv_iload hx hb dX6_haircutOf_51 (lv_at hl 1 rfl) ?_
        refine lv_iload_n hx hb dX6_haircutOf_53 rfl (lv_at hl 3 rfl) ?_
        refine lv_icmp_le (tgt := 62) hx hb dX6_haircutOf_54 (by decide) (fun c12 => ?_) (fun c12 => ?_)
        · have hf := if_of_pos hf c12
          refine lv_iload_n hx hb dX6_haircutOf_62 rfl (lv_at hl 3 rfl) ?_
          refine lv_istore_n (lv' := [(3, .int v3), (2, .int v2), (5, .int x10), (4, .int v4), (0, .ref (ad 0 0)), (1, .int v1)]) hx hb dX6_haircutOf_63 rfl hl (by decide) rfl (fun ls hl => ?_)
          obtain ⟨x13, hx13⟩ : ∃ y : Int32, y = v4 + 1 := ⟨_, rfl⟩
          have hf := kst_eq hx13 hf
          refine lv_iinc (v := x13) (lv' := [(4, .int x13), (3, .int v3), (2, .int v2), (5, .int x10), (0, .ref (ad 0 0)), (1, .int v1)]) hx hb dX6_haircutOf_64 hl (k := 3) rfl (by rw [hx13]; rfl) (by decide) rfl (fun ls hl => ?_)
          refine lv_goto (tgt := 14) hx hb dX6_haircutOf_67 (by decide) ?_
          exact ih _ _ _ x13 v3 v2 v1 hR hS (lv_sub hl [0, 1, 2, 4, 5] rfl) hf
        · have hf := if_of_neg hf c12
          refine lv_iload hx hb dX6_haircutOf_57 (lv_at hl 1 rfl) ?_
          refine lv_goto (tgt := 63) hx hb dX6_haircutOf_59 (by decide) ?_
          refine lv_istore_n (lv' := [(3, .int x10), (2, .int v2), (5, .int x10), (4, .int v4), (0, .ref (ad 0 0)), (1, .int v1)]) hx hb dX6_haircutOf_63 rfl hl (by decide) rfl (fun ls hl => ?_)
          obtain ⟨x14, hx14⟩ : ∃ y : Int32, y = v4 + 1 := ⟨_, rfl⟩
          have hf := kst_eq hx14 hf
          refine lv_iinc (v := x14) (lv' := [(4, .int x14), (3, .int x10), (2, .int v2), (5, .int x10), (0, .ref (ad 0 0)), (1, .int v1)]) hx hb dX6_haircutOf_64 hl (k := 3) rfl (by rw [hx14]; rfl) (by decide) rfl (fun ls hl => ?_)
          refine lv_goto (tgt := 14) hx hb dX6_haircutOf_67 (by decide) ?_
          exact ih _ _ _ x14 x10 v2 v1 hR hS (lv_sub hl [0, 1, 2, 4, 5] rfl) hf
      · have hf := if_of_neg hf c11
        refine lv_iload hx hb dX6_haircutOf_38 (lv_at hl 0 rfl) ?_
        refine lv_iload_n hx hb dX6_haircutOf_40 rfl (lv_at hl 3 rfl) ?_
        refine lv_icmp_ge (tgt := 49) hx hb dX6_haircutOf_41 (by decide) (fun c15 => ?_) (fun c15 => ?_)
        · have hf := if_of_pos hf c15
          refine lv_iload_n hx hb dX6_haircutOf_49 rfl (lv_at hl 3 rfl) ?_
          refine lv_istore_n (lv' := [(2, .int v2), (5, .int x10), (4, .int v4), (3, .int v3), (0, .ref (ad 0 0)), (1, .int v1)]) hx hb dX6_haircutOf_50 rfl hl (by decide) rfl (fun ls hl => ?_)
          refine lv_iload hx hb dX6_haircutOf_51 (lv_at hl 1 rfl) ?_
          refine lv_iload_n hx hb dX6_haircutOf_53 rfl (lv_at hl 3 rfl) ?_
          refine lv_icmp_le (tgt := 62) hx hb dX6_haircutOf_54 (by decide) (fun c16 => ?_) (fun c16 => ?_)
          · have hf := if_of_pos hf c16
            refine lv_iload_n hx hb dX6_haircutOf_62 rfl (lv_at hl 3 rfl) ?_
            refine lv_istore_n (lv' := [(3, .int v3), (2, .int v2), (5, .int x10), (4, .int v4), (0, .ref (ad 0 0)), (1, .int v1)]) hx hb dX6_haircutOf_63 rfl hl (by decide) rfl (fun ls hl => ?_)
            obtain ⟨x17, hx17⟩ : ∃ y : Int32, y = v4 + 1 := ⟨_, rfl⟩
            have hf := kst_eq hx17 hf
            refine lv_iinc (v := x17) (lv' := [(4, .int x17), (3, .int v3), (2, .int v2), (5, .int x10), (0, .ref (ad 0 0)), (1, .int v1)]) hx hb dX6_haircutOf_64 hl (k := 3) rfl (by rw [hx17]; rfl) (by decide) rfl (fun ls hl => ?_)
            refine lv_goto (tgt := 14) hx hb dX6_haircutOf_67 (by decide) ?_
            exact ih _ _ _ x17 v3 v2 v1 hR hS (lv_sub hl [0, 1, 2, 4, 5] rfl) hf
          · have hf := if_of_neg hf c16
            refine lv_iload hx hb dX6_haircutOf_57 (lv_at hl 1 rfl) ?_
            refine lv_goto (tgt := 63) hx hb dX6_haircutOf_59 (by decide) ?_
            refine lv_istore_n (lv' := [(3, .int x10), (2, .int v2), (5, .int x10), (4, .int v4), (0, .ref (ad 0 0)), (1, .int v1)]) hx hb dX6_haircutOf_63 rfl hl (by decide) rfl (fun ls hl => ?_)
            obtain ⟨x18, hx18⟩ : ∃ y : Int32, y = v4 + 1 := ⟨_, rfl⟩
            have hf := kst_eq hx18 hf
            refine lv_iinc (v := x18) (lv' := [(4, .int x18), (3, .int x10), (2, .int v2), (5, .int x10), (0, .ref (ad 0 0)), (1, .int v1)]) hx hb dX6_haircutOf_64 hl (k := 3) rfl (by rw [hx18]; rfl) (by decide) rfl (fun ls hl => ?_)
            refine lv_goto (tgt := 14) hx hb dX6_haircutOf_67 (by decide) ?_
            exact ih _ _ _ x18 x10 v2 v1 hR hS (lv_sub hl [0, 1, 2, 4, 5] rfl) hf
        · have hf := if_of_neg hf c15
          refine lv_iload hx hb dX6_haircutOf_44 (lv_at hl 0 rfl) ?_
          refine lv_goto (tgt := 50) hx hb dX6_haircutOf_46 (by decide) ?_
          refine lv_istore_n (lv' := [(2, .int x10), (5, .int x10), (4, .int v4), (3, .int v3), (0, .ref (ad 0 0)), (1, .int v1)]) hx hb dX6_haircutOf_50 rfl hl (by decide) rfl (fun ls hl => ?_)
          refine lv_iload hx hb dX6_haircutOf_51 (lv_at hl 1 rfl) ?_
          refine lv_iload_n hx hb dX6_haircutOf_53 rfl (lv_at hl 3 rfl) ?_
          refine lv_icmp_le (tgt := 62) hx hb dX6_haircutOf_54 (by decide) (fun c19 => ?_) (fun c19 => ?_)
          · have hf := if_of_pos hf c19
            refine lv_iload_n hx hb dX6_haircutOf_62 rfl (lv_at hl 3 rfl) ?_
            refine lv_istore_n (lv' := [(3, .int v3), (2, .int x10), (5, .int x10), (4, .int v4), (0, .ref (ad 0 0)), (1, .int v1)]) hx hb dX6_haircutOf_63 rfl hl (by decide) rfl (fun ls hl => ?_)
            obtain ⟨x20, hx20⟩ : ∃ y : Int32, y = v4 + 1 := ⟨_, rfl⟩
            have hf := kst_eq hx20 hf
            refine lv_iinc (v := x20) (lv' := [(4, .int x20), (3, .int v3), (2, .int x10), (5, .int x10), (0, .ref (ad 0 0)), (1, .int v1)]) hx hb dX6_haircutOf_64 hl (k := 3) rfl (by rw [hx20]; rfl) (by decide) rfl (fun ls hl => ?_)
            refine lv_goto (tgt := 14) hx hb dX6_haircutOf_67 (by decide) ?_
            exact ih _ _ _ x20 v3 x10 v1 hR hS (lv_sub hl [0, 1, 2, 4, 5] rfl) hf
          · have hf := if_of_neg hf c19
            refine lv_iload hx hb dX6_haircutOf_57 (lv_at hl 1 rfl) ?_
            refine lv_goto (tgt := 63) hx hb dX6_haircutOf_59 (by decide) ?_
            refine lv_istore_n (lv' := [(3, .int x10), (2, .int x10), (5, .int x10), (4, .int v4), (0, .ref (ad 0 0)), (1, .int v1)]) hx hb dX6_haircutOf_63 rfl hl (by decide) rfl (fun ls hl => ?_)
            obtain ⟨x21, hx21⟩ : ∃ y : Int32, y = v4 + 1 := ⟨_, rfl⟩
            have hf := kst_eq hx21 hf
            refine lv_iinc (v := x21) (lv' := [(4, .int x21), (3, .int x10), (2, .int x10), (5, .int x10), (0, .ref (ad 0 0)), (1, .int v1)]) hx hb dX6_haircutOf_64 hl (k := 3) rfl (by rw [hx21]; rfl) (by decide) rfl (fun ls hl => ?_)
            refine lv_goto (tgt := 14) hx hb dX6_haircutOf_67 (by decide) ?_
            exact ih _ _ _ x21 x10 x10 v1 hR hS (lv_sub hl [0, 1, 2, 4, 5] rfl) hf
def fX6_haircutOf (σ : St) (a1 : Int32) : Option (Int32) := gd (vin (4 * a1) 8) (kst (gI σ 3 0 (4 * a1).toNatClampNeg) (fun x2 => fX6_haircutOf_L14 σ 1000 1 x2 x2 a1))
set_option maxHeartbeats 4000000 in
set_option maxRecDepth 100000 in
theorem mX6_haircutOf (l : Launch) (D : va_G) (dA : Nat → ClassId) (ad : Nat → Nat → Nat) (σ : St) (sz : Nat) (a1 : Int32) (r : Int32) (hf : fX6_haircutOf σ a1 = some r) : Met l yX6_haircutOf (WSy yX6_haircutOf cX6_haircutOf 6 (some .int)) ({ frames := 0, cells := 0, slots := 0, locals := 0 } : Room) (va_Pc [.ref (ad 0 0), .int a1] (fun U => U.heap.size = sz ∧ HM D dA (fun _ => True) ad σ U.heap ∧ KS D dA U)) (va_Qi (fun (x : Int32) (_ : Unit) => x = r) (fun _ t => HM D dA (WA ad (cvM σ) sz) ad σ t.heap) (WA ad (cvM σ) sz)) 0 0 (WA ad (cvM σ) sz) := by
  refine met_of (by decide) (Nat.le_of_ble_eq_true rfl) ?_
  intro p e s m below meth c ls hC hB hl
  obtain ⟨rfl, hR, hK⟩ := hB
  have hA : ∀ q : Nat, s.heap.size ≤ q → WA ad (cvM σ) s.heap.size q := fun q h => Or.inr h
  have hR := WW_fit (B := WA ad (cvM σ) s.heap.size) hR (fun f i h => WA_in h)
  have hS : va_S (WA ad (cvM σ) s.heap.size) s.heap s.heap [] := va_S.rf
  generalize WA ad (cvM σ) s.heap.size = A0 at hA hR hS ⊢
  have hC : CTX p s m _ meth c cX6_haircutOf 6 RX6 (some .int) := hC
  obtain ⟨hx, hb, hml, hown, hts, hr, hlk⟩ := id hC
  have hl : lv_has ls 6 [(0, .ref (ad 0 0)), (1, .int a1)] := hl
  unfold fX6_haircutOf at hf
  refine lv_aload_n hx hb dX6_haircutOf_0 rfl (lv_at hl 0 rfl) ?_
  refine va_get (D := D) (ci := 7) (C := RX6) (T := TX6) (N := 22) hx hb hts iuX6 hown hK.1 (WW_one hR (f := 0) (i := 0) rfl) 0 rfl rfl 2 (by decide) (hts _ q_810) (fun _ h9 => h9) rfl dX6_haircutOf_1 ?_
  refine lv_iconst (v := 4) hx hb dX6_haircutOf_4 (by decide) ?_
  refine lv_iload_n hx hb dX6_haircutOf_5 rfl (lv_at hl 1 rfl) ?_
  refine lv_imul hx hb dX6_haircutOf_6 ?_
  obtain ⟨g1, hf⟩ := gd_of hf
  refine va_iald hx hb hK.1 (WW_one hR (f := 3) (i := 0) rfl) 0 0 rfl rfl g1 dX6_haircutOf_7 ?_
  refine lv_topi (fun x2 hx2 => ?_)
  have hf := kst_eq hx2 hf
  refine lv_istore_n (lv' := [(2, .int x2), (0, .ref (ad 0 0)), (1, .int a1)]) hx hb dX6_haircutOf_8 rfl hl (by decide) rfl (fun ls hl => ?_)
  refine lv_iload_n hx hb dX6_haircutOf_9 rfl (lv_at hl 0 rfl) ?_
  refine lv_istore_n (lv' := [(3, .int x2), (2, .int x2), (0, .ref (ad 0 0)), (1, .int a1)]) hx hb dX6_haircutOf_10 rfl hl (by decide) rfl (fun ls hl => ?_)
  refine lv_iconst (v := 1) hx hb dX6_haircutOf_11 (by decide) ?_
  refine lv_istore (lv' := [(4, .int 1), (3, .int x2), (2, .int x2), (0, .ref (ad 0 0)), (1, .int a1)]) hx hb dX6_haircutOf_12 hl (by decide) rfl (fun ls hl => ?_)
  exact wX6_haircutOf_L14 hC hK hA 1000 _ _ _ 1 x2 x2 a1 hR hS (lv_sub hl [0, 1, 2, 3, 4] rfl) hf
def fX6_worth (σ : St) (a1 : Int32) (a2 : Int32) : Option (Int64) := gd (vin ((3 * a1) + a2) 15) (gd (vin a2 3) (some ((Int32.toInt64 (gI σ 4 0 ((3 * a1) + a2).toNatClampNeg)) * (Int32.toInt64 (gI σ 1 0 a2.toNatClampNeg)))))
set_option maxHeartbeats 4000000 in
set_option maxRecDepth 100000 in
theorem mX6_worth (l : Launch) (D : va_G) (dA : Nat → ClassId) (ad : Nat → Nat → Nat) (σ : St) (sz : Nat) (a1 : Int32) (a2 : Int32) (r : Int64) (hf : fX6_worth σ a1 a2 = some r) : Met l yX6_worth (WSy yX6_worth cX6_worth 3 (some .long)) ({ frames := 0, cells := 0, slots := 0, locals := 0 } : Room) (va_Pc [.ref (ad 0 0), .int a1, .int a2] (fun U => U.heap.size = sz ∧ HM D dA (fun _ => True) ad σ U.heap ∧ KS D dA U)) (va_Ql (fun (x : Int64) (_ : Unit) => x = r) (fun _ t => HM D dA (WA ad (cvM σ) sz) ad σ t.heap) (WA ad (cvM σ) sz)) 0 0 (WA ad (cvM σ) sz) := by
  refine met_of (by decide) (Nat.le_of_ble_eq_true rfl) ?_
  intro p e s m below meth c ls hC hB hl
  obtain ⟨rfl, hR, hK⟩ := hB
  have hA : ∀ q : Nat, s.heap.size ≤ q → WA ad (cvM σ) s.heap.size q := fun q h => Or.inr h
  have hR := WW_fit (B := WA ad (cvM σ) s.heap.size) hR (fun f i h => WA_in h)
  have hS : va_S (WA ad (cvM σ) s.heap.size) s.heap s.heap [] := va_S.rf
  generalize WA ad (cvM σ) s.heap.size = A0 at hA hR hS ⊢
  have hC : CTX p s m _ meth c cX6_worth 3 RX6 (some .long) := hC
  obtain ⟨hx, hb, hml, hown, hts, hr, hlk⟩ := id hC
  have hl : lv_has ls 3 [(0, .ref (ad 0 0)), (1, .int a1), (2, .int a2)] := hl
  unfold fX6_worth at hf
  refine lv_aload_n hx hb dX6_worth_0 rfl (lv_at hl 0 rfl) ?_
  refine va_get (D := D) (ci := 7) (C := RX6) (T := TX6) (N := 22) hx hb hts iuX6 hown hK.1 (WW_one hR (f := 0) (i := 0) rfl) 0 rfl rfl 3 (by decide) (hts _ q_811) (fun _ h9 => h9) rfl dX6_worth_1 ?_
  refine lv_iconst (v := 3) hx hb dX6_worth_4 (by decide) ?_
  refine lv_iload_n hx hb dX6_worth_5 rfl (lv_at hl 1 rfl) ?_
  refine lv_imul hx hb dX6_worth_6 ?_
  refine lv_iload_n hx hb dX6_worth_7 rfl (lv_at hl 2 rfl) ?_
  refine lv_iadd hx hb dX6_worth_8 ?_
  obtain ⟨g1, hf⟩ := gd_of hf
  refine va_iald hx hb hK.1 (WW_one hR (f := 4) (i := 0) rfl) 0 0 rfl rfl g1 dX6_worth_9 ?_
  refine lv_i2l hx hb dX6_worth_10 rfl ?_
  refine lv_aload_n hx hb dX6_worth_11 rfl (lv_at hl 0 rfl) ?_
  refine va_get (D := D) (ci := 7) (C := RX6) (T := TX6) (N := 22) hx hb hts iuX6 hown hK.1 (WW_one hR (f := 0) (i := 0) rfl) 0 rfl rfl 0 (by decide) (hts _ q_808) (fun _ h9 => h9) rfl dX6_worth_12 ?_
  refine lv_iload_n hx hb dX6_worth_15 rfl (lv_at hl 2 rfl) ?_
  obtain ⟨g2, hf⟩ := gd_of hf
  refine va_iald hx hb hK.1 (WW_one hR (f := 1) (i := 0) rfl) 0 0 rfl rfl g2 dX6_worth_16 ?_
  refine lv_i2l hx hb dX6_worth_17 rfl ?_
  refine lv_lmul hx hb dX6_worth_18 ?_
  cases hf
  exact ret_l hC hR hS dX6_worth_19
def fX6_equityOf_L10 (σ : St) : Nat → Int32 → Int64 → Int32 → Option (Int64)
  | 0, _, _, _ => none
  | n + 1, v4, v2, v1 => if 3 ≤ v4 then some (v2) else bd (fX6_worth σ v1 v4) (fun q4 => gd (vin ((3 * v1) + v4) 15) (kst (v2 + (q4 - (gL σ 5 0 ((3 * v1) + v4).toNatClampNeg))) (fun x6 => kst (v4 + 1) (fun x7 => fX6_equityOf_L10 σ n x7 x6 v1))))
set_option maxHeartbeats 4000000 in
set_option maxRecDepth 100000 in
theorem wX6_equityOf_L10 {p : Program} {l : Launch} {e : Env} {s : State} {m : MethodId} {args : Array Value} {below : List Frame} {meth : Method} {c : Code} {D : va_G} {dA : Nat → ClassId} {A0 : Nat → Prop} {ad : Nat → Nat → Nat} {r : Int64} {σ : St} (hC : CTX p s m args meth c cX6_equityOf 5 RX6 (some .long)) (hK : KS D dA s) (hA : ∀ q, s.heap.size ≤ q → A0 q) : ∀ (n : Nat) (H : Heap) (locs : List Loc) (ls : Array Slot) (v4 : Int32) (v2 : Int64) (v1 : Int32), HM D dA A0 ad σ H → va_S A0 s.heap H locs → lv_has ls 5 [(4, .int v4), (2, .long v2), (0, .ref (ad 0 0)), (1, .int v1)] → fX6_equityOf_L10 σ n v4 v2 v1 = some r → W p l e ({ frames := 1, cells := 0, slots := 0, locals := 22 } : Room) s m args below meth c H locs 0 0 (MQ below (va_Ql (fun (x : Int64) (_ : Unit) => x = r) (fun _ t => HM D dA A0 ad σ t.heap) A0) args s 0 0 A0) (F0 m 10 ls []) := by
  obtain ⟨hx, hb, hml, hown, hts, hr, hlk⟩ := id hC
  intro n
  induction n with
  | zero =>
    intro H locs ls v4 v2 v1 hR hS hl hf
    rw [fX6_equityOf_L10.eq_1] at hf
    cases hf
  | succ n ih =>
    intro H locs ls v4 v2 v1 hR hS hl hf
    rw [fX6_equityOf_L10.eq_2] at hf
    refine lv_iload hx hb dX6_equityOf_10 (lv_at hl 0 rfl) ?_
    refine lv_iconst (v := 3) hx hb dX6_equityOf_12 (by decide) ?_
    refine lv_icmp_ge (tgt := 44) hx hb dX6_equityOf_13 (by decide) (fun c3 => ?_) (fun c3 => ?_)
    · have hf := if_of_pos hf c3
      refine lv_lload_n hx hb dX6_equityOf_44 rfl (lv_at hl 1 rfl) ?_
      cases hf
      exact ret_l hC hR hS dX6_equityOf_45
    · have hf := if_of_neg hf c3
      refine lv_lload_n hx hb dX6_equityOf_16 rfl (lv_at hl 1 rfl) ?_
      refine lv_aload_n hx hb dX6_equityOf_17 rfl (lv_at hl 2 rfl) ?_
      refine lv_iload_n hx hb dX6_equityOf_18 rfl (lv_at hl 3 rfl) ?_
      refine lv_iload hx hb dX6_equityOf_19 (lv_at hl 0 rfl) ?_
      obtain ⟨q4, hcq4, hf⟩ := bd_of hf
      refine kc_l (va_runV (As := [.int v1, .int v4]) (rest := [.long v2]) ⟨hx, hb, hml, hown, hts⟩ (mX6_worth l D dA ad σ _ v1 v4 q4 hcq4) (cwV 2 hts gX6_86 rfl rfl rfl (by decide +kernel) ⟨Nat.le_of_ble_eq_true rfl, Nat.le_of_ble_eq_true rfl⟩) (preV_of hR hK (f := 0) (i := 0) rfl rfl rfl _) rfl rfl hl.1 rfl (lv_room (Nat.le_of_ble_eq_true rfl)) dX6_equityOf_21 ⟨Nat.zero_le _, Nat.zero_le _⟩) hA hR hS (fun H locs hR hS => ?_)
      refine lv_aload_n hx hb dX6_equityOf_24 rfl (lv_at hl 2 rfl) ?_
      refine va_get (D := D) (ci := 7) (C := RX6) (T := TX6) (N := 22) hx hb hts iuX6 hown hK.1 (WW_one hR (f := 0) (i := 0) rfl) 0 rfl rfl 4 (by decide) (hts _ q_812) (fun _ h9 => h9) rfl dX6_equityOf_25 ?_
      refine lv_iconst (v := 3) hx hb dX6_equityOf_28 (by decide) ?_
      refine lv_iload_n hx hb dX6_equityOf_29 rfl (lv_at hl 3 rfl) ?_
      refine lv_imul hx hb dX6_equityOf_30 ?_
      refine lv_iload hx hb dX6_equityOf_31 (lv_at hl 0 rfl) ?_
      refine lv_iadd hx hb dX6_equityOf_33 ?_
      obtain ⟨g5, hf⟩ := gd_of hf
      refine va_lald hx hb hK.1 (WW_one hR (f := 5) (i := 0) rfl) 0 1 rfl rfl g5 dX6_equityOf_34 ?_
      refine lv_lsub hx hb dX6_equityOf_35 ?_
      refine lv_ladd hx hb dX6_equityOf_36 ?_
      refine lv_topl (fun x6 hx6 => ?_)
      have hf := kst_eq hx6 hf
      refine lv_lstore_n (lv' := [(2, .long x6), (4, .int v4), (0, .ref (ad 0 0)), (1, .int v1)]) hx hb dX6_equityOf_37 rfl hl (by decide) rfl (fun ls hl => ?_)
      obtain ⟨x7, hx7⟩ : ∃ y : Int32, y = v4 + 1 := ⟨_, rfl⟩
      have hf := kst_eq hx7 hf
      refine lv_iinc (v := x7) (lv' := [(4, .int x7), (2, .long x6), (0, .ref (ad 0 0)), (1, .int v1)]) hx hb dX6_equityOf_38 hl (k := 1) rfl (by rw [hx7]; rfl) (by decide) rfl (fun ls hl => ?_)
      refine lv_goto (tgt := 10) hx hb dX6_equityOf_41 (by decide) ?_
      exact ih _ _ _ x7 x6 v1 hR hS (lv_sub hl [0, 1, 2, 3] rfl) hf
def fX6_equityOf (σ : St) (a1 : Int32) : Option (Int64) := gd (vin a1 5) (kst (gL σ 6 0 a1.toNatClampNeg) (fun x2 => fX6_equityOf_L10 σ 1000 0 x2 a1))
set_option maxHeartbeats 4000000 in
set_option maxRecDepth 100000 in
theorem mX6_equityOf (l : Launch) (D : va_G) (dA : Nat → ClassId) (ad : Nat → Nat → Nat) (σ : St) (sz : Nat) (a1 : Int32) (r : Int64) (hf : fX6_equityOf σ a1 = some r) : Met l yX6_equityOf (WSy yX6_equityOf cX6_equityOf 5 (some .long)) ({ frames := 1, cells := 0, slots := 0, locals := 22 } : Room) (va_Pc [.ref (ad 0 0), .int a1] (fun U => U.heap.size = sz ∧ HM D dA (fun _ => True) ad σ U.heap ∧ KS D dA U)) (va_Ql (fun (x : Int64) (_ : Unit) => x = r) (fun _ t => HM D dA (WA ad (cvM σ) sz) ad σ t.heap) (WA ad (cvM σ) sz)) 0 0 (WA ad (cvM σ) sz) := by
  refine met_of (by decide) (Nat.le_of_ble_eq_true rfl) ?_
  intro p e s m below meth c ls hC hB hl
  obtain ⟨rfl, hR, hK⟩ := hB
  have hA : ∀ q : Nat, s.heap.size ≤ q → WA ad (cvM σ) s.heap.size q := fun q h => Or.inr h
  have hR := WW_fit (B := WA ad (cvM σ) s.heap.size) hR (fun f i h => WA_in h)
  have hS : va_S (WA ad (cvM σ) s.heap.size) s.heap s.heap [] := va_S.rf
  generalize WA ad (cvM σ) s.heap.size = A0 at hA hR hS ⊢
  have hC : CTX p s m _ meth c cX6_equityOf 5 RX6 (some .long) := hC
  obtain ⟨hx, hb, hml, hown, hts, hr, hlk⟩ := id hC
  have hl : lv_has ls 5 [(0, .ref (ad 0 0)), (1, .int a1)] := hl
  unfold fX6_equityOf at hf
  refine lv_aload_n hx hb dX6_equityOf_0 rfl (lv_at hl 0 rfl) ?_
  refine va_get (D := D) (ci := 7) (C := RX6) (T := TX6) (N := 22) hx hb hts iuX6 hown hK.1 (WW_one hR (f := 0) (i := 0) rfl) 0 rfl rfl 5 (by decide) (hts _ q_813) (fun _ h9 => h9) rfl dX6_equityOf_1 ?_
  refine lv_iload_n hx hb dX6_equityOf_4 rfl (lv_at hl 1 rfl) ?_
  obtain ⟨g1, hf⟩ := gd_of hf
  refine va_lald hx hb hK.1 (WW_one hR (f := 6) (i := 0) rfl) 0 1 rfl rfl g1 dX6_equityOf_5 ?_
  refine lv_topl (fun x2 hx2 => ?_)
  have hf := kst_eq hx2 hf
  refine lv_lstore_n (lv' := [(2, .long x2), (0, .ref (ad 0 0)), (1, .int a1)]) hx hb dX6_equityOf_6 rfl hl (by decide) rfl (fun ls hl => ?_)
  refine lv_iconst (v := 0) hx hb dX6_equityOf_7 (by decide) ?_
  refine lv_istore (lv' := [(4, .int 0), (2, .long x2), (0, .ref (ad 0 0)), (1, .int a1)]) hx hb dX6_equityOf_8 hl (by decide) rfl (fun ls hl => ?_)
  exact wX6_equityOf_L10 hC hK hA 1000 _ _ _ 0 x2 a1 hR hS (lv_sub hl [0, 1, 2, 3] rfl) hf
def fX6_resting_L6 (σ : St) : Nat → Int32 → Int32 → Int32 → Int32 → Int32 → Option (Int32)
  | 0, _, _, _, _, _ => none
  | n + 1, v5, v4, v1, v2, v3 => if (gI σ 21 0 0) ≤ v5 then some (v4) else gd (vin v5 100) (if ¬ (gI σ 11 0 v5.toNatClampNeg) = v1 then kst (v4 + 0) (fun x4 => kst (v5 + 1) (fun x5 => fX6_resting_L6 σ n x5 x4 v1 v2 v3)) else if ¬ (gI σ 12 0 v5.toNatClampNeg) = v2 then kst (v4 + 0) (fun x7 => kst (v5 + 1) (fun x8 => fX6_resting_L6 σ n x8 x7 v1 v2 v3)) else if ¬ (gI σ 13 0 v5.toNatClampNeg) = v3 then kst (v4 + 0) (fun x10 => kst (v5 + 1) (fun x11 => fX6_resting_L6 σ n x11 x10 v1 v2 v3)) else kst (v4 + (gI σ 15 0 v5.toNatClampNeg)) (fun x12 => kst (v5 + 1) (fun x13 => fX6_resting_L6 σ n x13 x12 v1 v2 v3)))
set_option maxHeartbeats 4000000 in
set_option maxRecDepth 100000 in
theorem wX6_resting_L6 {p : Program} {l : Launch} {e : Env} {s : State} {m : MethodId} {args : Array Value} {below : List Frame} {meth : Method} {c : Code} {D : va_G} {dA : Nat → ClassId} {A0 : Nat → Prop} {ad : Nat → Nat → Nat} {r : Int32} {σ : St} (hC : CTX p s m args meth c cX6_resting 6 RX6 (some .int)) (hK : KS D dA s) (hA : ∀ q, s.heap.size ≤ q → A0 q) : ∀ (n : Nat) (H : Heap) (locs : List Loc) (ls : Array Slot) (v5 : Int32) (v4 : Int32) (v1 : Int32) (v2 : Int32) (v3 : Int32), HM D dA A0 ad σ H → va_S A0 s.heap H locs → lv_has ls 6 [(5, .int v5), (4, .int v4), (0, .ref (ad 0 0)), (1, .int v1), (2, .int v2), (3, .int v3)] → fX6_resting_L6 σ n v5 v4 v1 v2 v3 = some r → W p l e ({ frames := 0, cells := 0, slots := 0, locals := 0 } : Room) s m args below meth c H locs 0 0 (MQ below (va_Qi (fun (x : Int32) (_ : Unit) => x = r) (fun _ t => HM D dA A0 ad σ t.heap) A0) args s 0 0 A0) (F0 m 6 ls []) := by
  obtain ⟨hx, hb, hml, hown, hts, hr, hlk⟩ := id hC
  intro n
  induction n with
  | zero =>
    intro H locs ls v5 v4 v1 v2 v3 hR hS hl hf
    rw [fX6_resting_L6.eq_1] at hf
    cases hf
  | succ n ih =>
    intro H locs ls v5 v4 v1 v2 v3 hR hS hl hf
    rw [fX6_resting_L6.eq_2] at hf
    refine lv_iload hx hb dX6_resting_6 (lv_at hl 0 rfl) ?_
    refine lv_aload_n hx hb dX6_resting_8 rfl (lv_at hl 2 rfl) ?_
    refine va_get (D := D) (ci := 7) (C := RX6) (T := TX6) (N := 22) hx hb hts iuX6 hown hK.1 (WW_one hR (f := 0) (i := 0) rfl) 0 rfl rfl 11 (by decide) (hts _ q_819) (fun _ h9 => h9) rfl dX6_resting_9 ?_
    refine lv_icmp_ge (tgt := 70) hx hb dX6_resting_12 (by decide) (fun c1 => ?_) (fun c1 => ?_)
    · have hf := if_of_pos hf c1
      refine lv_iload hx hb dX6_resting_70 (lv_at hl 1 rfl) ?_
      cases hf
      exact ret_i hC hR hS dX6_resting_72
    · have hf := if_of_neg hf c1
      refine lv_iload hx hb dX6_resting_15 (lv_at hl 1 rfl) ?_
      refine lv_aload_n hx hb dX6_resting_17 rfl (lv_at hl 2 rfl) ?_
      refine va_get (D := D) (ci := 7) (C := RX6) (T := TX6) (N := 22) hx hb hts iuX6 hown hK.1 (WW_one hR (f := 0) (i := 0) rfl) 0 rfl rfl 12 (by decide) (hts _ q_820) (fun _ h9 => h9) rfl dX6_resting_18 ?_
      refine lv_iload hx hb dX6_resting_21 (lv_at hl 0 rfl) ?_
      obtain ⟨g2, hf⟩ := gd_of hf
      refine va_iald hx hb hK.1 (WW_one hR (f := 11) (i := 0) rfl) 0 0 rfl rfl g2 dX6_resting_23 ?_
      refine lv_iload_n hx hb dX6_resting_24 rfl (lv_at hl 3 rfl) ?_
      refine lv_icmp_ne (tgt := 60) hx hb dX6_resting_25 (by decide) (fun c3 => ?_) (fun c3 => ?_)
      · have hf := if_of_pos hf c3
        refine lv_iconst (v := 0) hx hb dX6_resting_60 (by decide) ?_
        refine lv_iadd hx hb dX6_resting_61 ?_
        refine lv_topi (fun x4 hx4 => ?_)
        have hf := kst_eq hx4 hf
        refine lv_istore (lv' := [(4, .int x4), (5, .int v5), (0, .ref (ad 0 0)), (1, .int v1), (2, .int v2), (3, .int v3)]) hx hb dX6_resting_62 hl (by decide) rfl (fun ls hl => ?_)
        obtain ⟨x5, hx5⟩ : ∃ y : Int32, y = v5 + 1 := ⟨_, rfl⟩
        have hf := kst_eq hx5 hf
        refine lv_iinc (v := x5) (lv' := [(5, .int x5), (4, .int x4), (0, .ref (ad 0 0)), (1, .int v1), (2, .int v2), (3, .int v3)]) hx hb dX6_resting_64 hl (k := 1) rfl (by rw [hx5]; rfl) (by decide) rfl (fun ls hl => ?_)
        refine lv_goto (tgt := 6) hx hb dX6_resting_67 (by decide) ?_
        exact ih _ _ _ x5 x4 v1 v2 v3 hR hS (lv_sub hl [0, 1, 2, 3, 4, 5] rfl) hf
      · have hf := if_of_neg hf (fun q => q c3)
        refine lv_aload_n hx hb dX6_resting_28 rfl (lv_at hl 2 rfl) ?_
        refine va_get (D := D) (ci := 7) (C := RX6) (T := TX6) (N := 22) hx hb hts iuX6 hown hK.1 (WW_one hR (f := 0) (i := 0) rfl) 0 rfl rfl 13 (by decide) (hts _ q_821) (fun _ h9 => h9) rfl dX6_resting_29 ?_
        refine lv_iload hx hb dX6_resting_32 (lv_at hl 0 rfl) ?_
        refine va_iald hx hb hK.1 (WW_one hR (f := 12) (i := 0) rfl) 0 0 rfl rfl g2 dX6_resting_34 ?_
        refine lv_iload_n hx hb dX6_resting_35 rfl (lv_at hl 4 rfl) ?_
        refine lv_icmp_ne (tgt := 60) hx hb dX6_resting_36 (by decide) (fun c6 => ?_) (fun c6 => ?_)
        · have hf := if_of_pos hf c6
          refine lv_iconst (v := 0) hx hb dX6_resting_60 (by decide) ?_
          refine lv_iadd hx hb dX6_resting_61 ?_
          refine lv_topi (fun x7 hx7 => ?_)
          have hf := kst_eq hx7 hf
          refine lv_istore (lv' := [(4, .int x7), (5, .int v5), (0, .ref (ad 0 0)), (1, .int v1), (2, .int v2), (3, .int v3)]) hx hb dX6_resting_62 hl (by decide) rfl (fun ls hl => ?_)
          obtain ⟨x8, hx8⟩ : ∃ y : Int32, y = v5 + 1 := ⟨_, rfl⟩
          have hf := kst_eq hx8 hf
          refine lv_iinc (v := x8) (lv' := [(5, .int x8), (4, .int x7), (0, .ref (ad 0 0)), (1, .int v1), (2, .int v2), (3, .int v3)]) hx hb dX6_resting_64 hl (k := 1) rfl (by rw [hx8]; rfl) (by decide) rfl (fun ls hl => ?_)
          refine lv_goto (tgt := 6) hx hb dX6_resting_67 (by decide) ?_
          exact ih _ _ _ x8 x7 v1 v2 v3 hR hS (lv_sub hl [0, 1, 2, 3, 4, 5] rfl) hf
        · have hf := if_of_neg hf (fun q => q c6)
          refine lv_aload_n hx hb dX6_resting_39 rfl (lv_at hl 2 rfl) ?_
          refine va_get (D := D) (ci := 7) (C := RX6) (T := TX6) (N := 22) hx hb hts iuX6 hown hK.1 (WW_one hR (f := 0) (i := 0) rfl) 0 rfl rfl 14 (by decide) (hts _ q_822) (fun _ h9 => h9) rfl dX6_resting_40 ?_
          refine lv_iload hx hb dX6_resting_43 (lv_at hl 0 rfl) ?_
          refine va_zald hx hb hK.1 (WW_one hR (f := 13) (i := 0) rfl) 0 2 rfl rfl g2 dX6_resting_45 ?_
          refine lv_iload_n hx hb dX6_resting_46 rfl (lv_at hl 5 rfl) ?_
          refine lv_icmp_ne (tgt := 60) hx hb dX6_resting_47 (by decide) (fun c9 => ?_) (fun c9 => ?_)
          · have hf := if_of_pos hf c9
            refine lv_iconst (v := 0) hx hb dX6_resting_60 (by decide) ?_
            refine lv_iadd hx hb dX6_resting_61 ?_
            refine lv_topi (fun x10 hx10 => ?_)
            have hf := kst_eq hx10 hf
            refine lv_istore (lv' := [(4, .int x10), (5, .int v5), (0, .ref (ad 0 0)), (1, .int v1), (2, .int v2), (3, .int v3)]) hx hb dX6_resting_62 hl (by decide) rfl (fun ls hl => ?_)
            obtain ⟨x11, hx11⟩ : ∃ y : Int32, y = v5 + 1 := ⟨_, rfl⟩
            have hf := kst_eq hx11 hf
            refine lv_iinc (v := x11) (lv' := [(5, .int x11), (4, .int x10), (0, .ref (ad 0 0)), (1, .int v1), (2, .int v2), (3, .int v3)]) hx hb dX6_resting_64 hl (k := 1) rfl (by rw [hx11]; rfl) (by decide) rfl (fun ls hl => ?_)
            refine lv_goto (tgt := 6) hx hb dX6_resting_67 (by decide) ?_
            exact ih _ _ _ x11 x10 v1 v2 v3 hR hS (lv_sub hl [0, 1, 2, 3, 4, 5] rfl) hf
          · have hf := if_of_neg hf (fun q => q c9)
            refine lv_aload_n hx hb dX6_resting_50 rfl (lv_at hl 2 rfl) ?_
            refine va_get (D := D) (ci := 7) (C := RX6) (T := TX6) (N := 22) hx hb hts iuX6 hown hK.1 (WW_one hR (f := 0) (i := 0) rfl) 0 rfl rfl 16 (by decide) (hts _ q_824) (fun _ h9 => h9) rfl dX6_resting_51 ?_
            refine lv_iload hx hb dX6_resting_54 (lv_at hl 0 rfl) ?_
            refine va_iald hx hb hK.1 (WW_one hR (f := 15) (i := 0) rfl) 0 0 rfl rfl g2 dX6_resting_56 ?_
            refine lv_goto (tgt := 61) hx hb dX6_resting_57 (by decide) ?_
            refine lv_iadd hx hb dX6_resting_61 ?_
            refine lv_topi (fun x12 hx12 => ?_)
            have hf := kst_eq hx12 hf
            refine lv_istore (lv' := [(4, .int x12), (5, .int v5), (0, .ref (ad 0 0)), (1, .int v1), (2, .int v2), (3, .int v3)]) hx hb dX6_resting_62 hl (by decide) rfl (fun ls hl => ?_)
            obtain ⟨x13, hx13⟩ : ∃ y : Int32, y = v5 + 1 := ⟨_, rfl⟩
            have hf := kst_eq hx13 hf
            refine lv_iinc (v := x13) (lv' := [(5, .int x13), (4, .int x12), (0, .ref (ad 0 0)), (1, .int v1), (2, .int v2), (3, .int v3)]) hx hb dX6_resting_64 hl (k := 1) rfl (by rw [hx13]; rfl) (by decide) rfl (fun ls hl => ?_)
            refine lv_goto (tgt := 6) hx hb dX6_resting_67 (by decide) ?_
            exact ih _ _ _ x13 x12 v1 v2 v3 hR hS (lv_sub hl [0, 1, 2, 3, 4, 5] rfl) hf
def fX6_resting (σ : St) (a1 : Int32) (a2 : Int32) (a3 : Int32) : Option (Int32) := fX6_resting_L6 σ 1000 0 0 a1 a2 a3
set_option maxHeartbeats 4000000 in
set_option maxRecDepth 100000 in
theorem mX6_resting (l : Launch) (D : va_G) (dA : Nat → ClassId) (ad : Nat → Nat → Nat) (σ : St) (sz : Nat) (a1 : Int32) (a2 : Int32) (a3 : Int32) (r : Int32) (hf : fX6_resting σ a1 a2 a3 = some r) : Met l yX6_resting (WSy yX6_resting cX6_resting 6 (some .int)) ({ frames := 0, cells := 0, slots := 0, locals := 0 } : Room) (va_Pc [.ref (ad 0 0), .int a1, .int a2, .int a3] (fun U => U.heap.size = sz ∧ HM D dA (fun _ => True) ad σ U.heap ∧ KS D dA U)) (va_Qi (fun (x : Int32) (_ : Unit) => x = r) (fun _ t => HM D dA (WA ad (cvM σ) sz) ad σ t.heap) (WA ad (cvM σ) sz)) 0 0 (WA ad (cvM σ) sz) := by
  refine met_of (by decide) (Nat.le_of_ble_eq_true rfl) ?_
  intro p e s m below meth c ls hC hB hl
  obtain ⟨rfl, hR, hK⟩ := hB
  have hA : ∀ q : Nat, s.heap.size ≤ q → WA ad (cvM σ) s.heap.size q := fun q h => Or.inr h
  have hR := WW_fit (B := WA ad (cvM σ) s.heap.size) hR (fun f i h => WA_in h)
  have hS : va_S (WA ad (cvM σ) s.heap.size) s.heap s.heap [] := va_S.rf
  generalize WA ad (cvM σ) s.heap.size = A0 at hA hR hS ⊢
  have hC : CTX p s m _ meth c cX6_resting 6 RX6 (some .int) := hC
  obtain ⟨hx, hb, hml, hown, hts, hr, hlk⟩ := id hC
  have hl : lv_has ls 6 [(0, .ref (ad 0 0)), (1, .int a1), (2, .int a2), (3, .int a3)] := hl
  unfold fX6_resting at hf
  refine lv_iconst (v := 0) hx hb dX6_resting_0 (by decide) ?_
  refine lv_istore (lv' := [(4, .int 0), (0, .ref (ad 0 0)), (1, .int a1), (2, .int a2), (3, .int a3)]) hx hb dX6_resting_1 hl (by decide) rfl (fun ls hl => ?_)
  refine lv_iconst (v := 0) hx hb dX6_resting_3 (by decide) ?_
  refine lv_istore (lv' := [(5, .int 0), (4, .int 0), (0, .ref (ad 0 0)), (1, .int a1), (2, .int a2), (3, .int a3)]) hx hb dX6_resting_4 hl (by decide) rfl (fun ls hl => ?_)
  exact wX6_resting_L6 hC hK hA 1000 _ _ _ 0 0 a1 a2 a3 hR hS (lv_sub hl [0, 1, 2, 3, 4, 5] rfl) hf
def fX6_marginOf_L15 {β : Type} (σ : St) (k : Int32 → Int32 → Int32 → Int32 → Int32 → Option β) : Nat → Int32 → Int32 → Int32 → Int32 → Int32 → Option (β)
  | 0, _, _, _, _, _ => none
  | n + 1, v5, v4, v3, v2, v1 => if 3 ≤ v5 then k v5 v4 v3 v2 v1 else gd (vin ((3 * v3) + v5) 12) (kst (gI σ 2 0 ((3 * v3) + v5).toNatClampNeg) (fun x4 => gd (vin ((3 * v1) + v5) 15) (bd (fX6_resting σ v1 v5 1) (fun q6 => kst ((-x4) * ((gI σ 4 0 ((3 * v1) + v5).toNatClampNeg) + q6)) (fun x7 => bd (fX6_resting σ v1 v5 0) (fun q8 => kst ((-x4) * ((gI σ 4 0 ((3 * v1) + v5).toNatClampNeg) - q8)) (fun x9 => if x7 ≤ x9 then kst (v4 + x9) (fun x11 => kst (v5 + 1) (fun x12 => fX6_marginOf_L15 σ k n x12 x11 v3 v2 v1)) else kst (v4 + x7) (fun x13 => kst (v5 + 1) (fun x14 => fX6_marginOf_L15 σ k n x14 x13 v3 v2 v1)))))))))
set_option maxHeartbeats 4000000 in
set_option maxRecDepth 100000 in
theorem wX6_marginOf_L15 {p : Program} {l : Launch} {e : Env} {s : State} {m : MethodId} {args : Array Value} {below : List Frame} {meth : Method} {c : Code} {D : va_G} {dA : Nat → ClassId} {A0 : Nat → Prop} {ad : Nat → Nat → Nat} {β : Type} {o : β} {Q : State → Prop} {σ : St} {k : Int32 → Int32 → Int32 → Int32 → Int32 → Option β} (hC : CTX p s m args meth c cX6_marginOf 9 RX6 (some .int)) (hK : KS D dA s) (hA : ∀ q, s.heap.size ≤ q → A0 q) (hk : ∀ (H : Heap) (locs : List Loc) (ls : Array Slot) (v5 : Int32) (v4 : Int32) (v3 : Int32) (v2 : Int32) (v1 : Int32), HM D dA A0 ad σ H → va_S A0 s.heap H locs → lv_has ls 9 [(5, .int v5), (4, .int v4), (3, .int v3), (2, .int v2), (0, .ref (ad 0 0)), (1, .int v1)] → k v5 v4 v3 v2 v1 = some o → W p l e ({ frames := 1, cells := 0, slots := 0, locals := 25 } : Room) s m args below meth c H locs 0 0 Q (F0 m 111 ls [])) : ∀ (n : Nat) (H : Heap) (locs : List Loc) (ls : Array Slot) (v5 : Int32) (v4 : Int32) (v3 : Int32) (v2 : Int32) (v1 : Int32), HM D dA A0 ad σ H → va_S A0 s.heap H locs → lv_has ls 9 [(5, .int v5), (4, .int v4), (3, .int v3), (2, .int v2), (0, .ref (ad 0 0)), (1, .int v1)] → fX6_marginOf_L15 σ k n v5 v4 v3 v2 v1 = some o → W p l e ({ frames := 1, cells := 0, slots := 0, locals := 25 } : Room) s m args below meth c H locs 0 0 Q (F0 m 15 ls []) := by
  obtain ⟨hx, hb, hml, hown, hts, hr, hlk⟩ := id hC
  intro n
  induction n with
  | zero =>
    intro H locs ls v5 v4 v3 v2 v1 hR hS hl hf
    rw [fX6_marginOf_L15.eq_1] at hf
    cases hf
  | succ n ih =>
    intro H locs ls v5 v4 v3 v2 v1 hR hS hl hf
    rw [fX6_marginOf_L15.eq_2] at hf
    refine lv_iload hx hb dX6_marginOf_15 (lv_at hl 0 rfl) ?_
    refine lv_iconst (v := 3) hx hb dX6_marginOf_17 (by decide) ?_
    refine lv_icmp_ge (tgt := 111) hx hb dX6_marginOf_18 (by decide) (fun c2 => ?_) (fun c2 => ?_)
    · have hf := if_of_pos hf c2
      exact hk _ _ _ v5 v4 v3 v2 v1 hR hS (lv_sub hl [0, 1, 2, 3, 4, 5] rfl) hf
    · have hf := if_of_neg hf c2
      refine lv_aload_n hx hb dX6_marginOf_21 rfl (lv_at hl 4 rfl) ?_
      refine va_get (D := D) (ci := 7) (C := RX6) (T := TX6) (N := 22) hx hb hts iuX6 hown hK.1 (WW_one hR (f := 0) (i := 0) rfl) 0 rfl rfl 1 (by decide) (hts _ q_809) (fun _ h9 => h9) rfl dX6_marginOf_22 ?_
      refine lv_iconst (v := 3) hx hb dX6_marginOf_25 (by decide) ?_
      refine lv_iload_n hx hb dX6_marginOf_26 rfl (lv_at hl 2 rfl) ?_
      refine lv_imul hx hb dX6_marginOf_27 ?_
      refine lv_iload hx hb dX6_marginOf_28 (lv_at hl 0 rfl) ?_
      refine lv_iadd hx hb dX6_marginOf_30 ?_
      obtain ⟨g3, hf⟩ := gd_of hf
      refine va_iald hx hb hK.1 (WW_one hR (f := 2) (i := 0) rfl) 0 0 rfl rfl g3 dX6_marginOf_31 ?_
      refine lv_topi (fun x4 hx4 => ?_)
      have hf := kst_eq hx4 hf
      refine lv_istore (lv' := [(6, .int x4), (5, .int v5), (4, .int v4), (3, .int v3), (2, .int v2), (0, .ref (ad 0 0)), (1, .int v1)]) hx hb dX6_marginOf_32 hl (by decide) rfl (fun ls hl => ?_)
      refine lv_iload hx hb dX6_marginOf_34 (lv_at hl 0 rfl) ?_
      refine lv_ineg hx hb dX6_marginOf_36 ?_
      refine lv_aload_n hx hb dX6_marginOf_37 rfl (lv_at hl 5 rfl) ?_
      refine va_get (D := D) (ci := 7) (C := RX6) (T := TX6) (N := 22) hx hb hts iuX6 hown hK.1 (WW_one hR (f := 0) (i := 0) rfl) 0 rfl rfl 3 (by decide) (hts _ q_811) (fun _ h9 => h9) rfl dX6_marginOf_38 ?_
      refine lv_iconst (v := 3) hx hb dX6_marginOf_41 (by decide) ?_
      refine lv_iload_n hx hb dX6_marginOf_42 rfl (lv_at hl 6 rfl) ?_
      refine lv_imul hx hb dX6_marginOf_43 ?_
      refine lv_iload hx hb dX6_marginOf_44 (lv_at hl 1 rfl) ?_
      refine lv_iadd hx hb dX6_marginOf_46 ?_
      obtain ⟨g5, hf⟩ := gd_of hf
      refine va_iald hx hb hK.1 (WW_one hR (f := 4) (i := 0) rfl) 0 0 rfl rfl g5 dX6_marginOf_47 ?_
      refine lv_aload_n hx hb dX6_marginOf_48 rfl (lv_at hl 5 rfl) ?_
      refine lv_iload_n hx hb dX6_marginOf_49 rfl (lv_at hl 6 rfl) ?_
      refine lv_iload hx hb dX6_marginOf_50 (lv_at hl 1 rfl) ?_
      refine lv_iconst (v := 1) hx hb dX6_marginOf_52 (by decide) ?_
      obtain ⟨q6, hcq6, hf⟩ := bd_of hf
      refine kc_i (va_runV (As := [.int v1, .int v5, .int 1]) (rest := [.int (gI σ 4 0 ((3 * v1) + v5).toNatClampNeg), .int (-x4)]) ⟨hx, hb, hml, hown, hts⟩ (mX6_resting l D dA ad σ _ v1 v5 1 q6 hcq6) (cwV 3 hts gX6_93 rfl rfl rfl (by decide +kernel) ⟨Nat.le_of_ble_eq_true rfl, Nat.le_of_ble_eq_true rfl⟩) (preV_of hR hK (f := 0) (i := 0) rfl rfl rfl _) rfl rfl hl.1 rfl (lv_room (Nat.le_of_ble_eq_true rfl)) dX6_marginOf_53 ⟨Nat.zero_le _, Nat.zero_le _⟩) hA hR hS (fun H locs hR hS => ?_)
      refine lv_iadd hx hb dX6_marginOf_56 ?_
      refine lv_imul hx hb dX6_marginOf_57 ?_
      refine lv_topi (fun x7 hx7 => ?_)
      have hf := kst_eq hx7 hf
      refine lv_istore (lv' := [(7, .int x7), (6, .int x4), (5, .int v5), (4, .int v4), (3, .int v3), (2, .int v2), (0, .ref (ad 0 0)), (1, .int v1)]) hx hb dX6_marginOf_58 hl (by decide) rfl (fun ls hl => ?_)
      refine lv_iload hx hb dX6_marginOf_60 (lv_at hl 1 rfl) ?_
      refine lv_ineg hx hb dX6_marginOf_62 ?_
      refine lv_aload_n hx hb dX6_marginOf_63 rfl (lv_at hl 6 rfl) ?_
      refine va_get (D := D) (ci := 7) (C := RX6) (T := TX6) (N := 22) hx hb hts iuX6 hown hK.1 (WW_one hR (f := 0) (i := 0) rfl) 0 rfl rfl 3 (by decide) (hts _ q_811) (fun _ h9 => h9) rfl dX6_marginOf_64 ?_
      refine lv_iconst (v := 3) hx hb dX6_marginOf_67 (by decide) ?_
      refine lv_iload_n hx hb dX6_marginOf_68 rfl (lv_at hl 7 rfl) ?_
      refine lv_imul hx hb dX6_marginOf_69 ?_
      refine lv_iload hx hb dX6_marginOf_70 (lv_at hl 2 rfl) ?_
      refine lv_iadd hx hb dX6_marginOf_72 ?_
      refine va_iald hx hb hK.1 (WW_one hR (f := 4) (i := 0) rfl) 0 0 rfl rfl g5 dX6_marginOf_73 ?_
      refine lv_aload_n hx hb dX6_marginOf_74 rfl (lv_at hl 6 rfl) ?_
      refine lv_iload_n hx hb dX6_marginOf_75 rfl (lv_at hl 7 rfl) ?_
      refine lv_iload hx hb dX6_marginOf_76 (lv_at hl 2 rfl) ?_
      refine lv_iconst (v := 0) hx hb dX6_marginOf_78 (by decide) ?_
      obtain ⟨q8, hcq8, hf⟩ := bd_of hf
      refine kc_i (va_runV (As := [.int v1, .int v5, .int 0]) (rest := [.int (gI σ 4 0 ((3 * v1) + v5).toNatClampNeg), .int (-x4)]) ⟨hx, hb, hml, hown, hts⟩ (mX6_resting l D dA ad σ _ v1 v5 0 q8 hcq8) (cwV 3 hts gX6_93 rfl rfl rfl (by decide +kernel) ⟨Nat.le_of_ble_eq_true rfl, Nat.le_of_ble_eq_true rfl⟩) (preV_of hR hK (f := 0) (i := 0) rfl rfl rfl _) rfl rfl hl.1 rfl (lv_room (Nat.le_of_ble_eq_true rfl)) dX6_marginOf_79 ⟨Nat.zero_le _, Nat.zero_le _⟩) hA hR hS (fun H locs hR hS => ?_)
      refine lv_isub hx hb dX6_marginOf_82 ?_
      refine lv_imul hx hb dX6_marginOf_83 ?_
      refine lv_topi (fun x9 hx9 => ?_)
      have hf := kst_eq hx9 hf
      refine lv_istore (lv' := [(8, .int x9), (7, .int x7), (6, .int x4), (5, .int v5), (4, .int v4), (3, .int v3), (2, .int v2), (0, .ref (ad 0 0)), (1, .int v1)]) hx hb dX6_marginOf_84 hl (by decide) rfl (fun ls hl => ?_)
      refine lv_iload hx hb dX6_marginOf_86 (lv_at hl 4 rfl) ?_
      refine lv_iload hx hb dX6_marginOf_88 (lv_at hl 1 rfl) ?_
      refine lv_iload hx hb dX6_marginOf_90 (lv_at hl 0 rfl) ?_
      refine lv_icmp_le (tgt := 100) hx hb dX6_marginOf_92 (by decide) (fun c10 => ?_) (fun c10 => ?_)
      · have hf := if_of_pos hf c10
        refine lv_iload hx hb dX6_marginOf_100 (lv_at hl 0 rfl) ?_
        refine lv_iadd hx hb dX6_marginOf_102 ?_
        refine lv_topi (fun x11 hx11 => ?_)
        have hf := kst_eq hx11 hf
        refine lv_istore (lv' := [(4, .int x11), (8, .int x9), (7, .int x7), (6, .int x4), (5, .int v5), (3, .int v3), (2, .int v2), (0, .ref (ad 0 0)), (1, .int v1)]) hx hb dX6_marginOf_103 hl (by decide) rfl (fun ls hl => ?_)
        obtain ⟨x12, hx12⟩ : ∃ y : Int32, y = v5 + 1 := ⟨_, rfl⟩
        have hf := kst_eq hx12 hf
        refine lv_iinc (v := x12) (lv' := [(5, .int x12), (4, .int x11), (8, .int x9), (7, .int x7), (6, .int x4), (3, .int v3), (2, .int v2), (0, .ref (ad 0 0)), (1, .int v1)]) hx hb dX6_marginOf_105 hl (k := 4) rfl (by rw [hx12]; rfl) (by decide) rfl (fun ls hl => ?_)
        refine lv_goto (tgt := 15) hx hb dX6_marginOf_108 (by decide) ?_
        exact ih _ _ _ x12 x11 v3 v2 v1 hR hS (lv_sub hl [0, 1, 5, 6, 7, 8] rfl) hf
      · have hf := if_of_neg hf c10
        refine lv_iload hx hb dX6_marginOf_95 (lv_at hl 1 rfl) ?_
        refine lv_goto (tgt := 102) hx hb dX6_marginOf_97 (by decide) ?_
        refine lv_iadd hx hb dX6_marginOf_102 ?_
        refine lv_topi (fun x13 hx13 => ?_)
        have hf := kst_eq hx13 hf
        refine lv_istore (lv' := [(4, .int x13), (8, .int x9), (7, .int x7), (6, .int x4), (5, .int v5), (3, .int v3), (2, .int v2), (0, .ref (ad 0 0)), (1, .int v1)]) hx hb dX6_marginOf_103 hl (by decide) rfl (fun ls hl => ?_)
        obtain ⟨x14, hx14⟩ : ∃ y : Int32, y = v5 + 1 := ⟨_, rfl⟩
        have hf := kst_eq hx14 hf
        refine lv_iinc (v := x14) (lv' := [(5, .int x14), (4, .int x13), (8, .int x9), (7, .int x7), (6, .int x4), (3, .int v3), (2, .int v2), (0, .ref (ad 0 0)), (1, .int v1)]) hx hb dX6_marginOf_105 hl (k := 4) rfl (by rw [hx14]; rfl) (by decide) rfl (fun ls hl => ?_)
        refine lv_goto (tgt := 15) hx hb dX6_marginOf_108 (by decide) ?_
        exact ih _ _ _ x14 x13 v3 v2 v1 hR hS (lv_sub hl [0, 1, 5, 6, 7, 8] rfl) hf
def fX6_marginOf_L4 (σ : St) : Nat → Int32 → Int32 → Int32 → Option (Int32)
  | 0, _, _, _ => none
  | n + 1, v3, v2, v1 => if 4 ≤ v3 then some (v2) else fX6_marginOf_L15 σ (fun y15 y16 y17 y18 y19 => if y16 ≤ y18 then kst (y17 + 1) (fun x21 => fX6_marginOf_L4 σ n x21 y18 y19) else kst (y17 + 1) (fun x22 => fX6_marginOf_L4 σ n x22 y16 y19)) 1000 0 0 v3 v2 v1
set_option maxHeartbeats 4000000 in
set_option maxRecDepth 100000 in
theorem wX6_marginOf_L4 {p : Program} {l : Launch} {e : Env} {s : State} {m : MethodId} {args : Array Value} {below : List Frame} {meth : Method} {c : Code} {D : va_G} {dA : Nat → ClassId} {A0 : Nat → Prop} {ad : Nat → Nat → Nat} {r : Int32} {σ : St} (hC : CTX p s m args meth c cX6_marginOf 9 RX6 (some .int)) (hK : KS D dA s) (hA : ∀ q, s.heap.size ≤ q → A0 q) : ∀ (n : Nat) (H : Heap) (locs : List Loc) (ls : Array Slot) (v3 : Int32) (v2 : Int32) (v1 : Int32), HM D dA A0 ad σ H → va_S A0 s.heap H locs → lv_has ls 9 [(3, .int v3), (2, .int v2), (0, .ref (ad 0 0)), (1, .int v1)] → fX6_marginOf_L4 σ n v3 v2 v1 = some r → W p l e ({ frames := 1, cells := 0, slots := 0, locals := 25 } : Room) s m args below meth c H locs 0 0 (MQ below (va_Qi (fun (x : Int32) (_ : Unit) => x = r) (fun _ t => HM D dA A0 ad σ t.heap) A0) args s 0 0 A0) (F0 m 4 ls []) := by
  obtain ⟨hx, hb, hml, hown, hts, hr, hlk⟩ := id hC
  intro n
  induction n with
  | zero =>
    intro H locs ls v3 v2 v1 hR hS hl hf
    rw [fX6_marginOf_L4.eq_1] at hf
    cases hf
  | succ n ih =>
    intro H locs ls v3 v2 v1 hR hS hl hf
    rw [fX6_marginOf_L4.eq_2] at hf
    refine lv_iload_n hx hb dX6_marginOf_4 rfl (lv_at hl 0 rfl) ?_
    refine lv_iconst (v := 4) hx hb dX6_marginOf_5 (by decide) ?_
    refine lv_icmp_ge (tgt := 130) hx hb dX6_marginOf_6 (by decide) (fun c1 => ?_) (fun c1 => ?_)
    · have hf := if_of_pos hf c1
      refine lv_iload_n hx hb dX6_marginOf_130 rfl (lv_at hl 1 rfl) ?_
      cases hf
      exact ret_i hC hR hS dX6_marginOf_131
    · have hf := if_of_neg hf c1
      refine lv_iconst (v := 0) hx hb dX6_marginOf_9 (by decide) ?_
      refine lv_istore (lv' := [(4, .int 0), (3, .int v3), (2, .int v2), (0, .ref (ad 0 0)), (1, .int v1)]) hx hb dX6_marginOf_10 hl (by decide) rfl (fun ls hl => ?_)
      refine lv_iconst (v := 0) hx hb dX6_marginOf_12 (by decide) ?_
      refine lv_istore (lv' := [(5, .int 0), (4, .int 0), (3, .int v3), (2, .int v2), (0, .ref (ad 0 0)), (1, .int v1)]) hx hb dX6_marginOf_13 hl (by decide) rfl (fun ls hl => ?_)
      refine wX6_marginOf_L15 hC hK hA (fun H locs ls y15 y16 y17 y18 y19 hR hS hl hf => ?_) 1000 _ _ _ 0 0 v3 v2 v1 hR hS (lv_sub hl [0, 1, 2, 3, 4, 5] rfl) hf
      refine lv_iload hx hb dX6_marginOf_111 (lv_at hl 1 rfl) ?_
      refine lv_iload_n hx hb dX6_marginOf_113 rfl (lv_at hl 3 rfl) ?_
      refine lv_icmp_le (tgt := 122) hx hb dX6_marginOf_114 (by decide) (fun c20 => ?_) (fun c20 => ?_)
      · have hf := if_of_pos hf c20
        refine lv_iload_n hx hb dX6_marginOf_122 rfl (lv_at hl 3 rfl) ?_
        refine lv_istore_n (lv' := [(2, .int y18), (5, .int y15), (4, .int y16), (3, .int y17), (0, .ref (ad 0 0)), (1, .int y19)]) hx hb dX6_marginOf_123 rfl hl (by decide) rfl (fun ls hl => ?_)
        obtain ⟨x21, hx21⟩ : ∃ y : Int32, y = y17 + 1 := ⟨_, rfl⟩
        have hf := kst_eq hx21 hf
        refine lv_iinc (v := x21) (lv' := [(3, .int x21), (2, .int y18), (5, .int y15), (4, .int y16), (0, .ref (ad 0 0)), (1, .int y19)]) hx hb dX6_marginOf_124 hl (k := 3) rfl (by rw [hx21]; rfl) (by decide) rfl (fun ls hl => ?_)
        refine lv_goto (tgt := 4) hx hb dX6_marginOf_127 (by decide) ?_
        exact ih _ _ _ x21 y18 y19 hR hS (lv_sub hl [0, 1, 4, 5] rfl) hf
      · have hf := if_of_neg hf c20
        refine lv_iload hx hb dX6_marginOf_117 (lv_at hl 1 rfl) ?_
        refine lv_goto (tgt := 123) hx hb dX6_marginOf_119 (by decide) ?_
        refine lv_istore_n (lv' := [(2, .int y16), (5, .int y15), (4, .int y16), (3, .int y17), (0, .ref (ad 0 0)), (1, .int y19)]) hx hb dX6_marginOf_123 rfl hl (by decide) rfl (fun ls hl => ?_)
        obtain ⟨x22, hx22⟩ : ∃ y : Int32, y = y17 + 1 := ⟨_, rfl⟩
        have hf := kst_eq hx22 hf
        refine lv_iinc (v := x22) (lv' := [(3, .int x22), (2, .int y16), (5, .int y15), (4, .int y16), (0, .ref (ad 0 0)), (1, .int y19)]) hx hb dX6_marginOf_124 hl (k := 3) rfl (by rw [hx22]; rfl) (by decide) rfl (fun ls hl => ?_)
        refine lv_goto (tgt := 4) hx hb dX6_marginOf_127 (by decide) ?_
        exact ih _ _ _ x22 y16 y19 hR hS (lv_sub hl [0, 1, 4, 5] rfl) hf
def fX6_marginOf (σ : St) (a1 : Int32) : Option (Int32) := fX6_marginOf_L4 σ 1000 0 0 a1
set_option maxHeartbeats 4000000 in
set_option maxRecDepth 100000 in
theorem mX6_marginOf (l : Launch) (D : va_G) (dA : Nat → ClassId) (ad : Nat → Nat → Nat) (σ : St) (sz : Nat) (a1 : Int32) (r : Int32) (hf : fX6_marginOf σ a1 = some r) : Met l yX6_marginOf (WSy yX6_marginOf cX6_marginOf 9 (some .int)) ({ frames := 1, cells := 0, slots := 0, locals := 25 } : Room) (va_Pc [.ref (ad 0 0), .int a1] (fun U => U.heap.size = sz ∧ HM D dA (fun _ => True) ad σ U.heap ∧ KS D dA U)) (va_Qi (fun (x : Int32) (_ : Unit) => x = r) (fun _ t => HM D dA (WA ad (cvM σ) sz) ad σ t.heap) (WA ad (cvM σ) sz)) 0 0 (WA ad (cvM σ) sz) := by
  refine met_of (by decide) (Nat.le_of_ble_eq_true rfl) ?_
  intro p e s m below meth c ls hC hB hl
  obtain ⟨rfl, hR, hK⟩ := hB
  have hA : ∀ q : Nat, s.heap.size ≤ q → WA ad (cvM σ) s.heap.size q := fun q h => Or.inr h
  have hR := WW_fit (B := WA ad (cvM σ) s.heap.size) hR (fun f i h => WA_in h)
  have hS : va_S (WA ad (cvM σ) s.heap.size) s.heap s.heap [] := va_S.rf
  generalize WA ad (cvM σ) s.heap.size = A0 at hA hR hS ⊢
  have hC : CTX p s m _ meth c cX6_marginOf 9 RX6 (some .int) := hC
  obtain ⟨hx, hb, hml, hown, hts, hr, hlk⟩ := id hC
  have hl : lv_has ls 9 [(0, .ref (ad 0 0)), (1, .int a1)] := hl
  unfold fX6_marginOf at hf
  refine lv_iconst (v := 0) hx hb dX6_marginOf_0 (by decide) ?_
  refine lv_istore_n (lv' := [(2, .int 0), (0, .ref (ad 0 0)), (1, .int a1)]) hx hb dX6_marginOf_1 rfl hl (by decide) rfl (fun ls hl => ?_)
  refine lv_iconst (v := 0) hx hb dX6_marginOf_2 (by decide) ?_
  refine lv_istore_n (lv' := [(3, .int 0), (2, .int 0), (0, .ref (ad 0 0)), (1, .int a1)]) hx hb dX6_marginOf_3 rfl hl (by decide) rfl (fun ls hl => ?_)
  exact wX6_marginOf_L4 hC hK hA 1000 _ _ _ 0 0 a1 hR hS (lv_sub hl [0, 1, 2, 3] rfl) hf
def fX6_collateralOf_L5 (σ : St) : Nat → Int32 → Int64 → Int32 → Option (Int64)
  | 0, _, _, _ => none
  | n + 1, v4, v2, v1 => if 2 ≤ v4 then some (v2) else gd (vin ((2 * v1) + v4) 10) (gd (vin (4 * v4) 8) (bd (fX6_haircutOf σ v4) (fun q4 => kst (v2 + ((((Int32.toInt64 (gI σ 7 0 ((2 * v1) + v4).toNatClampNeg)) * (Int32.toInt64 (gI σ 3 0 (4 * v4).toNatClampNeg))) * (Int32.toInt64 (100 - q4))) / 100)) (fun x5 => kst (v4 + 1) (fun x6 => fX6_collateralOf_L5 σ n x6 x5 v1)))))
set_option maxHeartbeats 4000000 in
set_option maxRecDepth 100000 in
theorem wX6_collateralOf_L5 {p : Program} {l : Launch} {e : Env} {s : State} {m : MethodId} {args : Array Value} {below : List Frame} {meth : Method} {c : Code} {D : va_G} {dA : Nat → ClassId} {A0 : Nat → Prop} {ad : Nat → Nat → Nat} {r : Int64} {σ : St} (hC : CTX p s m args meth c cX6_collateralOf 5 RX6 (some .long)) (hK : KS D dA s) (hA : ∀ q, s.heap.size ≤ q → A0 q) : ∀ (n : Nat) (H : Heap) (locs : List Loc) (ls : Array Slot) (v4 : Int32) (v2 : Int64) (v1 : Int32), HM D dA A0 ad σ H → va_S A0 s.heap H locs → lv_has ls 5 [(4, .int v4), (2, .long v2), (0, .ref (ad 0 0)), (1, .int v1)] → fX6_collateralOf_L5 σ n v4 v2 v1 = some r → W p l e ({ frames := 1, cells := 0, slots := 0, locals := 25 } : Room) s m args below meth c H locs 0 0 (MQ below (va_Ql (fun (x : Int64) (_ : Unit) => x = r) (fun _ t => HM D dA A0 ad σ t.heap) A0) args s 0 0 A0) (F0 m 5 ls []) := by
  obtain ⟨hx, hb, hml, hown, hts, hr, hlk⟩ := id hC
  intro n
  induction n with
  | zero =>
    intro H locs ls v4 v2 v1 hR hS hl hf
    rw [fX6_collateralOf_L5.eq_1] at hf
    cases hf
  | succ n ih =>
    intro H locs ls v4 v2 v1 hR hS hl hf
    rw [fX6_collateralOf_L5.eq_2] at hf
    refine lv_iload hx hb dX6_collateralOf_5 (lv_at hl 0 rfl) ?_
    refine lv_iconst (v := 2) hx hb dX6_collateralOf_7 (by decide) ?_
    refine lv_icmp_ge (tgt := 58) hx hb dX6_collateralOf_8 (by decide) (fun c1 => ?_) (fun c1 => ?_)
    · have hf := if_of_pos hf c1
      refine lv_lload_n hx hb dX6_collateralOf_58 rfl (lv_at hl 1 rfl) ?_
      cases hf
      exact ret_l hC hR hS dX6_collateralOf_59
    · have hf := if_of_neg hf c1
      refine lv_lload_n hx hb dX6_collateralOf_11 rfl (lv_at hl 1 rfl) ?_
      refine lv_aload_n hx hb dX6_collateralOf_12 rfl (lv_at hl 2 rfl) ?_
      refine va_get (D := D) (ci := 7) (C := RX6) (T := TX6) (N := 22) hx hb hts iuX6 hown hK.1 (WW_one hR (f := 0) (i := 0) rfl) 0 rfl rfl 6 (by decide) (hts _ q_814) (fun _ h9 => h9) rfl dX6_collateralOf_13 ?_
      refine lv_iconst (v := 2) hx hb dX6_collateralOf_16 (by decide) ?_
      refine lv_iload_n hx hb dX6_collateralOf_17 rfl (lv_at hl 3 rfl) ?_
      refine lv_imul hx hb dX6_collateralOf_18 ?_
      refine lv_iload hx hb dX6_collateralOf_19 (lv_at hl 0 rfl) ?_
      refine lv_iadd hx hb dX6_collateralOf_21 ?_
      obtain ⟨g2, hf⟩ := gd_of hf
      refine va_iald hx hb hK.1 (WW_one hR (f := 7) (i := 0) rfl) 0 0 rfl rfl g2 dX6_collateralOf_22 ?_
      refine lv_i2l hx hb dX6_collateralOf_23 rfl ?_
      refine lv_aload_n hx hb dX6_collateralOf_24 rfl (lv_at hl 2 rfl) ?_
      refine va_get (D := D) (ci := 7) (C := RX6) (T := TX6) (N := 22) hx hb hts iuX6 hown hK.1 (WW_one hR (f := 0) (i := 0) rfl) 0 rfl rfl 2 (by decide) (hts _ q_810) (fun _ h9 => h9) rfl dX6_collateralOf_25 ?_
      refine lv_iconst (v := 4) hx hb dX6_collateralOf_28 (by decide) ?_
      refine lv_iload hx hb dX6_collateralOf_29 (lv_at hl 0 rfl) ?_
      refine lv_imul hx hb dX6_collateralOf_31 ?_
      obtain ⟨g3, hf⟩ := gd_of hf
      refine va_iald hx hb hK.1 (WW_one hR (f := 3) (i := 0) rfl) 0 0 rfl rfl g3 dX6_collateralOf_32 ?_
      refine lv_i2l hx hb dX6_collateralOf_33 rfl ?_
      refine lv_lmul hx hb dX6_collateralOf_34 ?_
      refine lv_bipush (v := 100) hx hb dX6_collateralOf_35 (by decide) ?_
      refine lv_aload_n hx hb dX6_collateralOf_37 rfl (lv_at hl 2 rfl) ?_
      refine lv_iload hx hb dX6_collateralOf_38 (lv_at hl 0 rfl) ?_
      obtain ⟨q4, hcq4, hf⟩ := bd_of hf
      refine kc_i (va_runV (As := [.int v4]) (rest := [.int 100, .long ((Int32.toInt64 (gI σ 7 0 ((2 * v1) + v4).toNatClampNeg)) * (Int32.toInt64 (gI σ 3 0 (4 * v4).toNatClampNeg))), .long v2]) ⟨hx, hb, hml, hown, hts⟩ (mX6_haircutOf l D dA ad σ _ v4 q4 hcq4) (cwV 1 hts gX6_82 rfl rfl rfl (by decide +kernel) ⟨Nat.le_of_ble_eq_true rfl, Nat.le_of_ble_eq_true rfl⟩) (preV_of hR hK (f := 0) (i := 0) rfl rfl rfl _) rfl rfl hl.1 rfl (lv_room (Nat.le_of_ble_eq_true rfl)) dX6_collateralOf_40 ⟨Nat.zero_le _, Nat.zero_le _⟩) hA hR hS (fun H locs hR hS => ?_)
      refine lv_isub hx hb dX6_collateralOf_43 ?_
      refine lv_i2l hx hb dX6_collateralOf_44 rfl ?_
      refine lv_lmul hx hb dX6_collateralOf_45 ?_
      refine lv_ldc2 (v := 100) hx hb hown (hts _ q_931) dX6_collateralOf_46 ?_
      refine lv_ldiv hx hb dX6_collateralOf_49 (by decide) ?_
      refine lv_ladd hx hb dX6_collateralOf_50 ?_
      refine lv_topl (fun x5 hx5 => ?_)
      have hf := kst_eq hx5 hf
      refine lv_lstore_n (lv' := [(2, .long x5), (4, .int v4), (0, .ref (ad 0 0)), (1, .int v1)]) hx hb dX6_collateralOf_51 rfl hl (by decide) rfl (fun ls hl => ?_)
      obtain ⟨x6, hx6⟩ : ∃ y : Int32, y = v4 + 1 := ⟨_, rfl⟩
      have hf := kst_eq hx6 hf
      refine lv_iinc (v := x6) (lv' := [(4, .int x6), (2, .long x5), (0, .ref (ad 0 0)), (1, .int v1)]) hx hb dX6_collateralOf_52 hl (k := 1) rfl (by rw [hx6]; rfl) (by decide) rfl (fun ls hl => ?_)
      refine lv_goto (tgt := 5) hx hb dX6_collateralOf_55 (by decide) ?_
      exact ih _ _ _ x6 x5 v1 hR hS (lv_sub hl [0, 1, 2, 3] rfl) hf
def fX6_collateralOf (σ : St) (a1 : Int32) : Option (Int64) := fX6_collateralOf_L5 σ 1000 0 0 a1
set_option maxHeartbeats 4000000 in
set_option maxRecDepth 100000 in
theorem mX6_collateralOf (l : Launch) (D : va_G) (dA : Nat → ClassId) (ad : Nat → Nat → Nat) (σ : St) (sz : Nat) (a1 : Int32) (r : Int64) (hf : fX6_collateralOf σ a1 = some r) : Met l yX6_collateralOf (WSy yX6_collateralOf cX6_collateralOf 5 (some .long)) ({ frames := 1, cells := 0, slots := 0, locals := 25 } : Room) (va_Pc [.ref (ad 0 0), .int a1] (fun U => U.heap.size = sz ∧ HM D dA (fun _ => True) ad σ U.heap ∧ KS D dA U)) (va_Ql (fun (x : Int64) (_ : Unit) => x = r) (fun _ t => HM D dA (WA ad (cvM σ) sz) ad σ t.heap) (WA ad (cvM σ) sz)) 0 0 (WA ad (cvM σ) sz) := by
  refine met_of (by decide) (Nat.le_of_ble_eq_true rfl) ?_
  intro p e s m below meth c ls hC hB hl
  obtain ⟨rfl, hR, hK⟩ := hB
  have hA : ∀ q : Nat, s.heap.size ≤ q → WA ad (cvM σ) s.heap.size q := fun q h => Or.inr h
  have hR := WW_fit (B := WA ad (cvM σ) s.heap.size) hR (fun f i h => WA_in h)
  have hS : va_S (WA ad (cvM σ) s.heap.size) s.heap s.heap [] := va_S.rf
  generalize WA ad (cvM σ) s.heap.size = A0 at hA hR hS ⊢
  have hC : CTX p s m _ meth c cX6_collateralOf 5 RX6 (some .long) := hC
  obtain ⟨hx, hb, hml, hown, hts, hr, hlk⟩ := id hC
  have hl : lv_has ls 5 [(0, .ref (ad 0 0)), (1, .int a1)] := hl
  unfold fX6_collateralOf at hf
  refine lv_lconst (v := 0) hx hb dX6_collateralOf_0 (by decide) ?_
  refine lv_lstore_n (lv' := [(2, .long 0), (0, .ref (ad 0 0)), (1, .int a1)]) hx hb dX6_collateralOf_1 rfl hl (by decide) rfl (fun ls hl => ?_)
  refine lv_iconst (v := 0) hx hb dX6_collateralOf_2 (by decide) ?_
  refine lv_istore (lv' := [(4, .int 0), (2, .long 0), (0, .ref (ad 0 0)), (1, .int a1)]) hx hb dX6_collateralOf_3 hl (by decide) rfl (fun ls hl => ?_)
  exact wX6_collateralOf_L5 hC hK hA 1000 _ _ _ 0 0 a1 hR hS (lv_sub hl [0, 1, 2, 3] rfl) hf
def fX6_freeOf (σ : St) (a1 : Int32) : Option (Int64) := bd (fX6_equityOf σ a1) (fun q1 => bd (fX6_collateralOf σ a1) (fun q2 => bd (fX6_marginOf σ a1) (fun q3 => some ((q1 + q2) - (Int32.toInt64 q3)))))
set_option maxHeartbeats 4000000 in
set_option maxRecDepth 100000 in
theorem mX6_freeOf (l : Launch) (D : va_G) (dA : Nat → ClassId) (ad : Nat → Nat → Nat) (σ : St) (sz : Nat) (a1 : Int32) (r : Int64) (hf : fX6_freeOf σ a1 = some r) : Met l yX6_freeOf (WSy yX6_freeOf cX6_freeOf 2 (some .long)) ({ frames := 2, cells := 0, slots := 0, locals := 53 } : Room) (va_Pc [.ref (ad 0 0), .int a1] (fun U => U.heap.size = sz ∧ HM D dA (fun _ => True) ad σ U.heap ∧ KS D dA U)) (va_Ql (fun (x : Int64) (_ : Unit) => x = r) (fun _ t => HM D dA (WA ad (cvM σ) sz) ad σ t.heap) (WA ad (cvM σ) sz)) 0 0 (WA ad (cvM σ) sz) := by
  refine met_of (by decide) (Nat.le_of_ble_eq_true rfl) ?_
  intro p e s m below meth c ls hC hB hl
  obtain ⟨rfl, hR, hK⟩ := hB
  have hA : ∀ q : Nat, s.heap.size ≤ q → WA ad (cvM σ) s.heap.size q := fun q h => Or.inr h
  have hR := WW_fit (B := WA ad (cvM σ) s.heap.size) hR (fun f i h => WA_in h)
  have hS : va_S (WA ad (cvM σ) s.heap.size) s.heap s.heap [] := va_S.rf
  generalize WA ad (cvM σ) s.heap.size = A0 at hA hR hS ⊢
  have hC : CTX p s m _ meth c cX6_freeOf 2 RX6 (some .long) := hC
  obtain ⟨hx, hb, hml, hown, hts, hr, hlk⟩ := id hC
  have hl : lv_has ls 2 [(0, .ref (ad 0 0)), (1, .int a1)] := hl
  unfold fX6_freeOf at hf
  refine lv_aload_n hx hb dX6_freeOf_0 rfl (lv_at hl 0 rfl) ?_
  refine lv_iload_n hx hb dX6_freeOf_1 rfl (lv_at hl 1 rfl) ?_
  obtain ⟨q1, hcq1, hf⟩ := bd_of hf
  refine kc_l (va_runV (As := [.int a1]) (rest := []) ⟨hx, hb, hml, hown, hts⟩ (mX6_equityOf l D dA ad σ _ a1 q1 hcq1) (cwV 1 hts gX6_99 rfl rfl rfl (by decide +kernel) ⟨Nat.le_of_ble_eq_true rfl, Nat.le_of_ble_eq_true rfl⟩) (preV_of hR hK (f := 0) (i := 0) rfl rfl rfl _) rfl rfl hl.1 rfl (lv_room (Nat.le_of_ble_eq_true rfl)) dX6_freeOf_2 ⟨Nat.zero_le _, Nat.zero_le _⟩) hA hR hS (fun H locs hR hS => ?_)
  refine lv_aload_n hx hb dX6_freeOf_5 rfl (lv_at hl 0 rfl) ?_
  refine lv_iload_n hx hb dX6_freeOf_6 rfl (lv_at hl 1 rfl) ?_
  obtain ⟨q2, hcq2, hf⟩ := bd_of hf
  refine kc_l (va_runV (As := [.int a1]) (rest := [.long q1]) ⟨hx, hb, hml, hown, hts⟩ (mX6_collateralOf l D dA ad σ _ a1 q2 hcq2) (cwV 1 hts gX6_103 rfl rfl rfl (by decide +kernel) ⟨Nat.le_of_ble_eq_true rfl, Nat.le_of_ble_eq_true rfl⟩) (preV_of hR hK (f := 0) (i := 0) rfl rfl rfl _) rfl rfl hl.1 rfl (lv_room (Nat.le_of_ble_eq_true rfl)) dX6_freeOf_7 ⟨Nat.zero_le _, Nat.zero_le _⟩) hA hR hS (fun H locs hR hS => ?_)
  refine lv_ladd hx hb dX6_freeOf_10 ?_
  refine lv_aload_n hx hb dX6_freeOf_11 rfl (lv_at hl 0 rfl) ?_
  refine lv_iload_n hx hb dX6_freeOf_12 rfl (lv_at hl 1 rfl) ?_
  obtain ⟨q3, hcq3, hf⟩ := bd_of hf
  refine kc_i (va_runV (As := [.int a1]) (rest := [.long (q1 + q2)]) ⟨hx, hb, hml, hown, hts⟩ (mX6_marginOf l D dA ad σ _ a1 q3 hcq3) (cwV 1 hts gX6_106 rfl rfl rfl (by decide +kernel) ⟨Nat.le_of_ble_eq_true rfl, Nat.le_of_ble_eq_true rfl⟩) (preV_of hR hK (f := 0) (i := 0) rfl rfl rfl _) rfl rfl hl.1 rfl (lv_room (Nat.le_of_ble_eq_true rfl)) dX6_freeOf_13 ⟨Nat.zero_le _, Nat.zero_le _⟩) hA hR hS (fun H locs hR hS => ?_)
  refine lv_i2l hx hb dX6_freeOf_16 rfl ?_
  refine lv_lsub hx hb dX6_freeOf_17 ?_
  cases hf
  exact ret_l hC hR hS dX6_freeOf_18
def fX6_bestOf_L5 (σ : St) : Nat → Int32 → Int32 → Int32 → Int32 → Option (Int32)
  | 0, _, _, _, _ => none
  | n + 1, v4, v3, v1, v2 => if (gI σ 21 0 0) ≤ v4 then some (v3) else gd (vin v4 100) (if ¬ (gI σ 12 0 v4.toNatClampNeg) = v1 then kst (v4 + 1) (fun x5 => fX6_bestOf_L5 σ n x5 v3 v1 v2) else if ¬ (gI σ 13 0 v4.toNatClampNeg) = v2 then kst (v4 + 1) (fun x8 => fX6_bestOf_L5 σ n x8 v3 v1 v2) else if (gI σ 15 0 v4.toNatClampNeg) ≤ 0 then kst (v4 + 1) (fun x11 => fX6_bestOf_L5 σ n x11 v3 v1 v2) else if v3 = (-1) then kst (v4 + 1) (fun x14 => fX6_bestOf_L5 σ n x14 v4 v1 v2) else if v2 = 0 then gd (vin v3 100) (if (gI σ 14 0 v3.toNatClampNeg) ≤ (gI σ 14 0 v4.toNatClampNeg) then kst (v4 + 1) (fun x18 => fX6_bestOf_L5 σ n x18 v3 v1 v2) else kst (v4 + 1) (fun x19 => fX6_bestOf_L5 σ n x19 v4 v1 v2)) else gd (vin v3 100) (if (gI σ 14 0 v4.toNatClampNeg) ≤ (gI σ 14 0 v3.toNatClampNeg) then kst (v4 + 1) (fun x22 => fX6_bestOf_L5 σ n x22 v3 v1 v2) else kst (v4 + 1) (fun x23 => fX6_bestOf_L5 σ n x23 v4 v1 v2)))
set_option maxHeartbeats 4000000 in
set_option maxRecDepth 100000 in
theorem wX6_bestOf_L5 {p : Program} {l : Launch} {e : Env} {s : State} {m : MethodId} {args : Array Value} {below : List Frame} {meth : Method} {c : Code} {D : va_G} {dA : Nat → ClassId} {A0 : Nat → Prop} {ad : Nat → Nat → Nat} {r : Int32} {σ : St} (hC : CTX p s m args meth c cX6_bestOf 6 RX6 (some .int)) (hK : KS D dA s) (hA : ∀ q, s.heap.size ≤ q → A0 q) : ∀ (n : Nat) (H : Heap) (locs : List Loc) (ls : Array Slot) (v4 : Int32) (v3 : Int32) (v1 : Int32) (v2 : Int32), HM D dA A0 ad σ H → va_S A0 s.heap H locs → lv_has ls 6 [(4, .int v4), (3, .int v3), (0, .ref (ad 0 0)), (1, .int v1), (2, .int v2)] → fX6_bestOf_L5 σ n v4 v3 v1 v2 = some r → W p l e ({ frames := 0, cells := 0, slots := 0, locals := 0 } : Room) s m args below meth c H locs 0 0 (MQ below (va_Qi (fun (x : Int32) (_ : Unit) => x = r) (fun _ t => HM D dA A0 ad σ t.heap) A0) args s 0 0 A0) (F0 m 5 ls []) := by
  obtain ⟨hx, hb, hml, hown, hts, hr, hlk⟩ := id hC
  intro n
  induction n with
  | zero =>
    intro H locs ls v4 v3 v1 v2 hR hS hl hf
    rw [fX6_bestOf_L5.eq_1] at hf
    cases hf
  | succ n ih =>
    intro H locs ls v4 v3 v1 v2 hR hS hl hf
    rw [fX6_bestOf_L5.eq_2] at hf
    refine lv_iload hx hb dX6_bestOf_5 (lv_at hl 0 rfl) ?_
    refine lv_aload_n hx hb dX6_bestOf_7 rfl (lv_at hl 2 rfl) ?_
    refine va_get (D := D) (ci := 7) (C := RX6) (T := TX6) (N := 22) hx hb hts iuX6 hown hK.1 (WW_one hR (f := 0) (i := 0) rfl) 0 rfl rfl 11 (by decide) (hts _ q_819) (fun _ h9 => h9) rfl dX6_bestOf_8 ?_
    refine lv_icmp_ge (tgt := 115) hx hb dX6_bestOf_11 (by decide) (fun c1 => ?_) (fun c1 => ?_)
    · have hf := if_of_pos hf c1
      refine lv_iload_n hx hb dX6_bestOf_115 rfl (lv_at hl 1 rfl) ?_
      cases hf
      exact ret_i hC hR hS dX6_bestOf_116
    · have hf := if_of_neg hf c1
      refine lv_aload_n hx hb dX6_bestOf_14 rfl (lv_at hl 2 rfl) ?_
      refine va_get (D := D) (ci := 7) (C := RX6) (T := TX6) (N := 22) hx hb hts iuX6 hown hK.1 (WW_one hR (f := 0) (i := 0) rfl) 0 rfl rfl 13 (by decide) (hts _ q_821) (fun _ h9 => h9) rfl dX6_bestOf_15 ?_
      refine lv_iload hx hb dX6_bestOf_18 (lv_at hl 0 rfl) ?_
      obtain ⟨g2, hf⟩ := gd_of hf
      refine va_iald hx hb hK.1 (WW_one hR (f := 12) (i := 0) rfl) 0 0 rfl rfl g2 dX6_bestOf_20 ?_
      refine lv_iload_n hx hb dX6_bestOf_21 rfl (lv_at hl 3 rfl) ?_
      refine lv_icmp_ne (tgt := 50) hx hb dX6_bestOf_22 (by decide) (fun c3 => ?_) (fun c3 => ?_)
      · have hf := if_of_pos hf c3
        refine lv_iconst (v := 0) hx hb dX6_bestOf_50 (by decide) ?_
        refine lv_istore (lv' := [(5, .int 0), (4, .int v4), (3, .int v3), (0, .ref (ad 0 0)), (1, .int v1), (2, .int v2)]) hx hb dX6_bestOf_51 hl (by decide) rfl (fun ls hl => ?_)
        refine lv_iload hx hb dX6_bestOf_53 (lv_at hl 0 rfl) ?_
        refine lv_if_eq (tgt := 107) hx hb dX6_bestOf_55 (by decide) (fun c4 => ?_) (fun c4 => absurd (by decide) c4)
        refine lv_iload_n hx hb dX6_bestOf_107 rfl (lv_at hl 2 rfl) ?_
        refine lv_istore_n (lv' := [(3, .int v3), (5, .int 0), (4, .int v4), (0, .ref (ad 0 0)), (1, .int v1), (2, .int v2)]) hx hb dX6_bestOf_108 rfl hl (by decide) rfl (fun ls hl => ?_)
        obtain ⟨x5, hx5⟩ : ∃ y : Int32, y = v4 + 1 := ⟨_, rfl⟩
        have hf := kst_eq hx5 hf
        refine lv_iinc (v := x5) (lv' := [(4, .int x5), (3, .int v3), (5, .int 0), (0, .ref (ad 0 0)), (1, .int v1), (2, .int v2)]) hx hb dX6_bestOf_109 hl (k := 2) rfl (by rw [hx5]; rfl) (by decide) rfl (fun ls hl => ?_)
        refine lv_goto (tgt := 5) hx hb dX6_bestOf_112 (by decide) ?_
        exact ih _ _ _ x5 v3 v1 v2 hR hS (lv_sub hl [0, 1, 3, 4, 5] rfl) hf
      · have hf := if_of_neg hf (fun q => q c3)
        refine lv_aload_n hx hb dX6_bestOf_25 rfl (lv_at hl 2 rfl) ?_
        refine va_get (D := D) (ci := 7) (C := RX6) (T := TX6) (N := 22) hx hb hts iuX6 hown hK.1 (WW_one hR (f := 0) (i := 0) rfl) 0 rfl rfl 14 (by decide) (hts _ q_822) (fun _ h9 => h9) rfl dX6_bestOf_26 ?_
        refine lv_iload hx hb dX6_bestOf_29 (lv_at hl 0 rfl) ?_
        refine va_zald hx hb hK.1 (WW_one hR (f := 13) (i := 0) rfl) 0 2 rfl rfl g2 dX6_bestOf_31 ?_
        refine lv_iload_n hx hb dX6_bestOf_32 rfl (lv_at hl 4 rfl) ?_
        refine lv_icmp_ne (tgt := 50) hx hb dX6_bestOf_33 (by decide) (fun c6 => ?_) (fun c6 => ?_)
        · have hf := if_of_pos hf c6
          refine lv_iconst (v := 0) hx hb dX6_bestOf_50 (by decide) ?_
          refine lv_istore (lv' := [(5, .int 0), (4, .int v4), (3, .int v3), (0, .ref (ad 0 0)), (1, .int v1), (2, .int v2)]) hx hb dX6_bestOf_51 hl (by decide) rfl (fun ls hl => ?_)
          refine lv_iload hx hb dX6_bestOf_53 (lv_at hl 0 rfl) ?_
          refine lv_if_eq (tgt := 107) hx hb dX6_bestOf_55 (by decide) (fun c7 => ?_) (fun c7 => absurd (by decide) c7)
          refine lv_iload_n hx hb dX6_bestOf_107 rfl (lv_at hl 2 rfl) ?_
          refine lv_istore_n (lv' := [(3, .int v3), (5, .int 0), (4, .int v4), (0, .ref (ad 0 0)), (1, .int v1), (2, .int v2)]) hx hb dX6_bestOf_108 rfl hl (by decide) rfl (fun ls hl => ?_)
          obtain ⟨x8, hx8⟩ : ∃ y : Int32, y = v4 + 1 := ⟨_, rfl⟩
          have hf := kst_eq hx8 hf
          refine lv_iinc (v := x8) (lv' := [(4, .int x8), (3, .int v3), (5, .int 0), (0, .ref (ad 0 0)), (1, .int v1), (2, .int v2)]) hx hb dX6_bestOf_109 hl (k := 2) rfl (by rw [hx8]; rfl) (by decide) rfl (fun ls hl => ?_)
          refine lv_goto (tgt := 5) hx hb dX6_bestOf_112 (by decide) ?_
          exact ih _ _ _ x8 v3 v1 v2 hR hS (lv_sub hl [0, 1, 3, 4, 5] rfl) hf
        · have hf := if_of_neg hf (fun q => q c6)
          refine lv_aload_n hx hb dX6_bestOf_36 rfl (lv_at hl 2 rfl) ?_
          refine va_get (D := D) (ci := 7) (C := RX6) (T := TX6) (N := 22) hx hb hts iuX6 hown hK.1 (WW_one hR (f := 0) (i := 0) rfl) 0 rfl rfl 16 (by decide) (hts _ q_824) (fun _ h9 => h9) rfl dX6_bestOf_37 ?_
          refine lv_iload hx hb dX6_bestOf_40 (lv_at hl 0 rfl) ?_
          refine va_iald hx hb hK.1 (WW_one hR (f := 15) (i := 0) rfl) 0 0 rfl rfl g2 dX6_bestOf_42 ?_
          refine lv_if_le (tgt := 50) hx hb dX6_bestOf_43 (by decide) (fun c9 => ?_) (fun c9 => ?_)
          · have hf := if_of_pos hf c9
            refine lv_iconst (v := 0) hx hb dX6_bestOf_50 (by decide) ?_
            refine lv_istore (lv' := [(5, .int 0), (4, .int v4), (3, .int v3), (0, .ref (ad 0 0)), (1, .int v1), (2, .int v2)]) hx hb dX6_bestOf_51 hl (by decide) rfl (fun ls hl => ?_)
            refine lv_iload hx hb dX6_bestOf_53 (lv_at hl 0 rfl) ?_
            refine lv_if_eq (tgt := 107) hx hb dX6_bestOf_55 (by decide) (fun c10 => ?_) (fun c10 => absurd (by decide) c10)
            refine lv_iload_n hx hb dX6_bestOf_107 rfl (lv_at hl 2 rfl) ?_
            refine lv_istore_n (lv' := [(3, .int v3), (5, .int 0), (4, .int v4), (0, .ref (ad 0 0)), (1, .int v1), (2, .int v2)]) hx hb dX6_bestOf_108 rfl hl (by decide) rfl (fun ls hl => ?_)
            obtain ⟨x11, hx11⟩ : ∃ y : Int32, y = v4 + 1 := ⟨_, rfl⟩
            have hf := kst_eq hx11 hf
            refine lv_iinc (v := x11) (lv' := [(4, .int x11), (3, .int v3), (5, .int 0), (0, .ref (ad 0 0)), (1, .int v1), (2, .int v2)]) hx hb dX6_bestOf_109 hl (k := 2) rfl (by rw [hx11]; rfl) (by decide) rfl (fun ls hl => ?_)
            refine lv_goto (tgt := 5) hx hb dX6_bestOf_112 (by decide) ?_
            exact ih _ _ _ x11 v3 v1 v2 hR hS (lv_sub hl [0, 1, 3, 4, 5] rfl) hf
          · have hf := if_of_neg hf c9
            refine lv_iconst (v := 1) hx hb dX6_bestOf_46 (by decide) ?_
            refine lv_goto (tgt := 51) hx hb dX6_bestOf_47 (by decide) ?_
            refine lv_istore (lv' := [(5, .int 1), (4, .int v4), (3, .int v3), (0, .ref (ad 0 0)), (1, .int v1), (2, .int v2)]) hx hb dX6_bestOf_51 hl (by decide) rfl (fun ls hl => ?_)
            refine lv_iload hx hb dX6_bestOf_53 (lv_at hl 0 rfl) ?_
            refine lv_if_eq (tgt := 107) hx hb dX6_bestOf_55 (by decide) (fun c12 => absurd c12 (by decide)) (fun c12 => ?_)
            refine lv_iload_n hx hb dX6_bestOf_58 rfl (lv_at hl 2 rfl) ?_
            refine lv_iconst (v := (-1)) hx hb dX6_bestOf_59 (by decide) ?_
            refine lv_icmp_eq (tgt := 102) hx hb dX6_bestOf_60 (by decide) (fun c13 => ?_) (fun c13 => ?_)
            · have hf := if_of_pos hf c13
              refine lv_iload hx hb dX6_bestOf_102 (lv_at hl 1 rfl) ?_
              refine lv_goto (tgt := 108) hx hb dX6_bestOf_104 (by decide) ?_
              refine lv_istore_n (lv' := [(3, .int v4), (5, .int 1), (4, .int v4), (0, .ref (ad 0 0)), (1, .int v1), (2, .int v2)]) hx hb dX6_bestOf_108 rfl hl (by decide) rfl (fun ls hl => ?_)
              obtain ⟨x14, hx14⟩ : ∃ y : Int32, y = v4 + 1 := ⟨_, rfl⟩
              have hf := kst_eq hx14 hf
              refine lv_iinc (v := x14) (lv' := [(4, .int x14), (3, .int v4), (5, .int 1), (0, .ref (ad 0 0)), (1, .int v1), (2, .int v2)]) hx hb dX6_bestOf_109 hl (k := 2) rfl (by rw [hx14]; rfl) (by decide) rfl (fun ls hl => ?_)
              refine lv_goto (tgt := 5) hx hb dX6_bestOf_112 (by decide) ?_
              exact ih _ _ _ x14 v4 v1 v2 hR hS (lv_sub hl [0, 1, 3, 4, 5] rfl) hf
            · have hf := if_of_neg hf c13
              refine lv_iload_n hx hb dX6_bestOf_63 rfl (lv_at hl 5 rfl) ?_
              refine lv_if_eq (tgt := 86) hx hb dX6_bestOf_64 (by decide) (fun c15 => ?_) (fun c15 => ?_)
              · have hf := if_of_pos hf c15
                refine lv_aload_n hx hb dX6_bestOf_86 rfl (lv_at hl 3 rfl) ?_
                refine va_get (D := D) (ci := 7) (C := RX6) (T := TX6) (N := 22) hx hb hts iuX6 hown hK.1 (WW_one hR (f := 0) (i := 0) rfl) 0 rfl rfl 15 (by decide) (hts _ q_823) (fun _ h9 => h9) rfl dX6_bestOf_87 ?_
                refine lv_iload hx hb dX6_bestOf_90 (lv_at hl 1 rfl) ?_
                refine va_iald hx hb hK.1 (WW_one hR (f := 14) (i := 0) rfl) 0 0 rfl rfl g2 dX6_bestOf_92 ?_
                refine lv_aload_n hx hb dX6_bestOf_93 rfl (lv_at hl 3 rfl) ?_
                refine va_get (D := D) (ci := 7) (C := RX6) (T := TX6) (N := 22) hx hb hts iuX6 hown hK.1 (WW_one hR (f := 0) (i := 0) rfl) 0 rfl rfl 15 (by decide) (hts _ q_823) (fun _ h9 => h9) rfl dX6_bestOf_94 ?_
                refine lv_iload_n hx hb dX6_bestOf_97 rfl (lv_at hl 2 rfl) ?_
                obtain ⟨g16, hf⟩ := gd_of hf
                refine va_iald hx hb hK.1 (WW_one hR (f := 14) (i := 0) rfl) 0 0 rfl rfl g16 dX6_bestOf_98 ?_
                refine lv_icmp_ge (tgt := 107) hx hb dX6_bestOf_99 (by decide) (fun c17 => ?_) (fun c17 => ?_)
                · have hf := if_of_pos hf c17
                  refine lv_iload_n hx hb dX6_bestOf_107 rfl (lv_at hl 2 rfl) ?_
                  refine lv_istore_n (lv' := [(3, .int v3), (5, .int 1), (4, .int v4), (0, .ref (ad 0 0)), (1, .int v1), (2, .int v2)]) hx hb dX6_bestOf_108 rfl hl (by decide) rfl (fun ls hl => ?_)
                  obtain ⟨x18, hx18⟩ : ∃ y : Int32, y = v4 + 1 := ⟨_, rfl⟩
                  have hf := kst_eq hx18 hf
                  refine lv_iinc (v := x18) (lv' := [(4, .int x18), (3, .int v3), (5, .int 1), (0, .ref (ad 0 0)), (1, .int v1), (2, .int v2)]) hx hb dX6_bestOf_109 hl (k := 2) rfl (by rw [hx18]; rfl) (by decide) rfl (fun ls hl => ?_)
                  refine lv_goto (tgt := 5) hx hb dX6_bestOf_112 (by decide) ?_
                  exact ih _ _ _ x18 v3 v1 v2 hR hS (lv_sub hl [0, 1, 3, 4, 5] rfl) hf
                · have hf := if_of_neg hf c17
                  refine lv_iload hx hb dX6_bestOf_102 (lv_at hl 1 rfl) ?_
                  refine lv_goto (tgt := 108) hx hb dX6_bestOf_104 (by decide) ?_
                  refine lv_istore_n (lv' := [(3, .int v4), (5, .int 1), (4, .int v4), (0, .ref (ad 0 0)), (1, .int v1), (2, .int v2)]) hx hb dX6_bestOf_108 rfl hl (by decide) rfl (fun ls hl => ?_)
                  obtain ⟨x19, hx19⟩ : ∃ y : Int32, y = v4 + 1 := ⟨_, rfl⟩
                  have hf := kst_eq hx19 hf
                  refine lv_iinc (v := x19) (lv' := [(4, .int x19), (3, .int v4), (5, .int 1), (0, .ref (ad 0 0)), (1, .int v1), (2, .int v2)]) hx hb dX6_bestOf_109 hl (k := 2) rfl (by rw [hx19]; rfl) (by decide) rfl (fun ls hl => ?_)
                  refine lv_goto (tgt := 5) hx hb dX6_bestOf_112 (by decide) ?_
                  exact ih _ _ _ x19 v4 v1 v2 hR hS (lv_sub hl [0, 1, 3, 4, 5] rfl) hf
              · have hf := if_of_neg hf c15
                refine lv_aload_n hx hb dX6_bestOf_67 rfl (lv_at hl 3 rfl) ?_
                refine va_get (D := D) (ci := 7) (C := RX6) (T := TX6) (N := 22) hx hb hts iuX6 hown hK.1 (WW_one hR (f := 0) (i := 0) rfl) 0 rfl rfl 15 (by decide) (hts _ q_823) (fun _ h9 => h9) rfl dX6_bestOf_68 ?_
                refine lv_iload hx hb dX6_bestOf_71 (lv_at hl 1 rfl) ?_
                refine va_iald hx hb hK.1 (WW_one hR (f := 14) (i := 0) rfl) 0 0 rfl rfl g2 dX6_bestOf_73 ?_
                refine lv_aload_n hx hb dX6_bestOf_74 rfl (lv_at hl 3 rfl) ?_
                refine va_get (D := D) (ci := 7) (C := RX6) (T := TX6) (N := 22) hx hb hts iuX6 hown hK.1 (WW_one hR (f := 0) (i := 0) rfl) 0 rfl rfl 15 (by decide) (hts _ q_823) (fun _ h9 => h9) rfl dX6_bestOf_75 ?_
                refine lv_iload_n hx hb dX6_bestOf_78 rfl (lv_at hl 2 rfl) ?_
                obtain ⟨g20, hf⟩ := gd_of hf
                refine va_iald hx hb hK.1 (WW_one hR (f := 14) (i := 0) rfl) 0 0 rfl rfl g20 dX6_bestOf_79 ?_
                refine lv_icmp_le (tgt := 107) hx hb dX6_bestOf_80 (by decide) (fun c21 => ?_) (fun c21 => ?_)
                · have hf := if_of_pos hf c21
                  refine lv_iload_n hx hb dX6_bestOf_107 rfl (lv_at hl 2 rfl) ?_
                  refine lv_istore_n (lv' := [(3, .int v3), (5, .int 1), (4, .int v4), (0, .ref (ad 0 0)), (1, .int v1), (2, .int v2)]) hx hb dX6_bestOf_108 rfl hl (by decide) rfl (fun ls hl => ?_)
                  obtain ⟨x22, hx22⟩ : ∃ y : Int32, y = v4 + 1 := ⟨_, rfl⟩
                  have hf := kst_eq hx22 hf
                  refine lv_iinc (v := x22) (lv' := [(4, .int x22), (3, .int v3), (5, .int 1), (0, .ref (ad 0 0)), (1, .int v1), (2, .int v2)]) hx hb dX6_bestOf_109 hl (k := 2) rfl (by rw [hx22]; rfl) (by decide) rfl (fun ls hl => ?_)
                  refine lv_goto (tgt := 5) hx hb dX6_bestOf_112 (by decide) ?_
                  exact ih _ _ _ x22 v3 v1 v2 hR hS (lv_sub hl [0, 1, 3, 4, 5] rfl) hf
                · have hf := if_of_neg hf c21
                  refine lv_goto (tgt := 102) hx hb dX6_bestOf_83 (by decide) ?_
                  refine lv_iload hx hb dX6_bestOf_102 (lv_at hl 1 rfl) ?_
                  refine lv_goto (tgt := 108) hx hb dX6_bestOf_104 (by decide) ?_
                  refine lv_istore_n (lv' := [(3, .int v4), (5, .int 1), (4, .int v4), (0, .ref (ad 0 0)), (1, .int v1), (2, .int v2)]) hx hb dX6_bestOf_108 rfl hl (by decide) rfl (fun ls hl => ?_)
                  obtain ⟨x23, hx23⟩ : ∃ y : Int32, y = v4 + 1 := ⟨_, rfl⟩
                  have hf := kst_eq hx23 hf
                  refine lv_iinc (v := x23) (lv' := [(4, .int x23), (3, .int v4), (5, .int 1), (0, .ref (ad 0 0)), (1, .int v1), (2, .int v2)]) hx hb dX6_bestOf_109 hl (k := 2) rfl (by rw [hx23]; rfl) (by decide) rfl (fun ls hl => ?_)
                  refine lv_goto (tgt := 5) hx hb dX6_bestOf_112 (by decide) ?_
                  exact ih _ _ _ x23 v4 v1 v2 hR hS (lv_sub hl [0, 1, 3, 4, 5] rfl) hf
def fX6_bestOf (σ : St) (a1 : Int32) (a2 : Int32) : Option (Int32) := fX6_bestOf_L5 σ 1000 0 (-1) a1 a2
set_option maxHeartbeats 4000000 in
set_option maxRecDepth 100000 in
theorem mX6_bestOf (l : Launch) (D : va_G) (dA : Nat → ClassId) (ad : Nat → Nat → Nat) (σ : St) (sz : Nat) (a1 : Int32) (a2 : Int32) (r : Int32) (hf : fX6_bestOf σ a1 a2 = some r) : Met l yX6_bestOf (WSy yX6_bestOf cX6_bestOf 6 (some .int)) ({ frames := 0, cells := 0, slots := 0, locals := 0 } : Room) (va_Pc [.ref (ad 0 0), .int a1, .int a2] (fun U => U.heap.size = sz ∧ HM D dA (fun _ => True) ad σ U.heap ∧ KS D dA U)) (va_Qi (fun (x : Int32) (_ : Unit) => x = r) (fun _ t => HM D dA (WA ad (cvM σ) sz) ad σ t.heap) (WA ad (cvM σ) sz)) 0 0 (WA ad (cvM σ) sz) := by
  refine met_of (by decide) (Nat.le_of_ble_eq_true rfl) ?_
  intro p e s m below meth c ls hC hB hl
  obtain ⟨rfl, hR, hK⟩ := hB
  have hA : ∀ q : Nat, s.heap.size ≤ q → WA ad (cvM σ) s.heap.size q := fun q h => Or.inr h
  have hR := WW_fit (B := WA ad (cvM σ) s.heap.size) hR (fun f i h => WA_in h)
  have hS : va_S (WA ad (cvM σ) s.heap.size) s.heap s.heap [] := va_S.rf
  generalize WA ad (cvM σ) s.heap.size = A0 at hA hR hS ⊢
  have hC : CTX p s m _ meth c cX6_bestOf 6 RX6 (some .int) := hC
  obtain ⟨hx, hb, hml, hown, hts, hr, hlk⟩ := id hC
  have hl : lv_has ls 6 [(0, .ref (ad 0 0)), (1, .int a1), (2, .int a2)] := hl
  unfold fX6_bestOf at hf
  refine lv_iconst (v := (-1)) hx hb dX6_bestOf_0 (by decide) ?_
  refine lv_istore_n (lv' := [(3, .int (-1)), (0, .ref (ad 0 0)), (1, .int a1), (2, .int a2)]) hx hb dX6_bestOf_1 rfl hl (by decide) rfl (fun ls hl => ?_)
  refine lv_iconst (v := 0) hx hb dX6_bestOf_2 (by decide) ?_
  refine lv_istore (lv' := [(4, .int 0), (3, .int (-1)), (0, .ref (ad 0 0)), (1, .int a1), (2, .int a2)]) hx hb dX6_bestOf_3 hl (by decide) rfl (fun ls hl => ?_)
  exact wX6_bestOf_L5 hC hK hA 1000 _ _ _ 0 (-1) a1 a2 hR hS (lv_sub hl [0, 1, 2, 3, 4] rfl) hf
def fX6_isOrder (σ : St) (a1 : Int32) : Option (Int32) := if a1 < 0 then some (0) else if (gI σ 21 0 0) ≤ a1 then some (0) else some (1)
set_option maxHeartbeats 4000000 in
set_option maxRecDepth 100000 in
theorem mX6_isOrder (l : Launch) (D : va_G) (dA : Nat → ClassId) (ad : Nat → Nat → Nat) (σ : St) (sz : Nat) (a1 : Int32) (r : Int32) (hf : fX6_isOrder σ a1 = some r) : Met l yX6_isOrder (WSy yX6_isOrder cX6_isOrder 2 (some .boolean)) ({ frames := 0, cells := 0, slots := 0, locals := 0 } : Room) (va_Pc [.ref (ad 0 0), .int a1] (fun U => U.heap.size = sz ∧ HM D dA (fun _ => True) ad σ U.heap ∧ KS D dA U)) (va_Qi (fun (x : Int32) (_ : Unit) => x = r) (fun _ t => HM D dA (WA ad (cvM σ) sz) ad σ t.heap) (WA ad (cvM σ) sz)) 0 0 (WA ad (cvM σ) sz) := by
  refine met_of (by decide) (Nat.le_of_ble_eq_true rfl) ?_
  intro p e s m below meth c ls hC hB hl
  obtain ⟨rfl, hR, hK⟩ := hB
  have hA : ∀ q : Nat, s.heap.size ≤ q → WA ad (cvM σ) s.heap.size q := fun q h => Or.inr h
  have hR := WW_fit (B := WA ad (cvM σ) s.heap.size) hR (fun f i h => WA_in h)
  have hS : va_S (WA ad (cvM σ) s.heap.size) s.heap s.heap [] := va_S.rf
  generalize WA ad (cvM σ) s.heap.size = A0 at hA hR hS ⊢
  have hC : CTX p s m _ meth c cX6_isOrder 2 RX6 (some .boolean) := hC
  obtain ⟨hx, hb, hml, hown, hts, hr, hlk⟩ := id hC
  have hl : lv_has ls 2 [(0, .ref (ad 0 0)), (1, .int a1)] := hl
  unfold fX6_isOrder at hf
  refine lv_iload_n hx hb dX6_isOrder_0 rfl (lv_at hl 1 rfl) ?_
  refine lv_if_lt (tgt := 16) hx hb dX6_isOrder_1 (by decide) (fun c1 => ?_) (fun c1 => ?_)
  · have hf := if_of_pos hf c1
    refine lv_iconst (v := 0) hx hb dX6_isOrder_16 (by decide) ?_
    cases hf
    exact ret_z hC hR hS (by decide) dX6_isOrder_17
  · have hf := if_of_neg hf c1
    refine lv_iload_n hx hb dX6_isOrder_4 rfl (lv_at hl 1 rfl) ?_
    refine lv_aload_n hx hb dX6_isOrder_5 rfl (lv_at hl 0 rfl) ?_
    refine va_get (D := D) (ci := 7) (C := RX6) (T := TX6) (N := 22) hx hb hts iuX6 hown hK.1 (WW_one hR (f := 0) (i := 0) rfl) 0 rfl rfl 11 (by decide) (hts _ q_819) (fun _ h9 => h9) rfl dX6_isOrder_6 ?_
    refine lv_icmp_ge (tgt := 16) hx hb dX6_isOrder_9 (by decide) (fun c2 => ?_) (fun c2 => ?_)
    · have hf := if_of_pos hf c2
      refine lv_iconst (v := 0) hx hb dX6_isOrder_16 (by decide) ?_
      cases hf
      exact ret_z hC hR hS (by decide) dX6_isOrder_17
    · have hf := if_of_neg hf c2
      refine lv_iconst (v := 1) hx hb dX6_isOrder_12 (by decide) ?_
      refine lv_goto (tgt := 17) hx hb dX6_isOrder_13 (by decide) ?_
      cases hf
      exact ret_z hC hR hS (by decide) dX6_isOrder_17
def fX6_riskOf_L22 (σ : St) : Nat → Int32 → Int32 → Int32 → Int32 → Option (Int32)
  | 0, _, _, _, _ => none
  | n + 1, v4, v3, v1, v2 => if 4 ≤ v4 then some (v3) else gd (vin ((3 * v4) + v2) 12) (gd (vin ((3 * v1) + v2) 15) (kst ((-(gI σ 2 0 ((3 * v4) + v2).toNatClampNeg)) * (gI σ 4 0 ((3 * v1) + v2).toNatClampNeg)) (fun x7 => if x7 ≤ v3 then kst (v4 + 1) (fun x9 => fX6_riskOf_L22 σ n x9 v3 v1 v2) else kst (v4 + 1) (fun x10 => fX6_riskOf_L22 σ n x10 x7 v1 v2))))
set_option maxHeartbeats 4000000 in
set_option maxRecDepth 100000 in
theorem wX6_riskOf_L22 {p : Program} {l : Launch} {e : Env} {s : State} {m : MethodId} {args : Array Value} {below : List Frame} {meth : Method} {c : Code} {D : va_G} {dA : Nat → ClassId} {A0 : Nat → Prop} {ad : Nat → Nat → Nat} {r : Int32} {σ : St} (hC : CTX p s m args meth c cX6_riskOf 6 RX6 (some .int)) (hK : KS D dA s) (hA : ∀ q, s.heap.size ≤ q → A0 q) : ∀ (n : Nat) (H : Heap) (locs : List Loc) (ls : Array Slot) (v4 : Int32) (v3 : Int32) (v1 : Int32) (v2 : Int32), HM D dA A0 ad σ H → va_S A0 s.heap H locs → lv_has ls 6 [(4, .int v4), (3, .int v3), (0, .ref (ad 0 0)), (1, .int v1), (2, .int v2)] → fX6_riskOf_L22 σ n v4 v3 v1 v2 = some r → W p l e ({ frames := 0, cells := 0, slots := 0, locals := 0 } : Room) s m args below meth c H locs 0 0 (MQ below (va_Qi (fun (x : Int32) (_ : Unit) => x = r) (fun _ t => HM D dA A0 ad σ t.heap) A0) args s 0 0 A0) (F0 m 22 ls []) := by
  obtain ⟨hx, hb, hml, hown, hts, hr, hlk⟩ := id hC
  intro n
  induction n with
  | zero =>
    intro H locs ls v4 v3 v1 v2 hR hS hl hf
    rw [fX6_riskOf_L22.eq_1] at hf
    cases hf
  | succ n ih =>
    intro H locs ls v4 v3 v1 v2 hR hS hl hf
    rw [fX6_riskOf_L22.eq_2] at hf
    refine lv_iload hx hb dX6_riskOf_22 (lv_at hl 0 rfl) ?_
    refine lv_iconst (v := 4) hx hb dX6_riskOf_24 (by decide) ?_
    refine lv_icmp_ge (tgt := 72) hx hb dX6_riskOf_25 (by decide) (fun c4 => ?_) (fun c4 => ?_)
    · have hf := if_of_pos hf c4
      refine lv_iload_n hx hb dX6_riskOf_72 rfl (lv_at hl 1 rfl) ?_
      cases hf
      exact ret_i hC hR hS dX6_riskOf_73
    · have hf := if_of_neg hf c4
      refine lv_aload_n hx hb dX6_riskOf_28 rfl (lv_at hl 2 rfl) ?_
      refine va_get (D := D) (ci := 7) (C := RX6) (T := TX6) (N := 22) hx hb hts iuX6 hown hK.1 (WW_one hR (f := 0) (i := 0) rfl) 0 rfl rfl 1 (by decide) (hts _ q_809) (fun _ h9 => h9) rfl dX6_riskOf_29 ?_
      refine lv_iconst (v := 3) hx hb dX6_riskOf_32 (by decide) ?_
      refine lv_iload hx hb dX6_riskOf_33 (lv_at hl 0 rfl) ?_
      refine lv_imul hx hb dX6_riskOf_35 ?_
      refine lv_iload_n hx hb dX6_riskOf_36 rfl (lv_at hl 4 rfl) ?_
      refine lv_iadd hx hb dX6_riskOf_37 ?_
      obtain ⟨g5, hf⟩ := gd_of hf
      refine va_iald hx hb hK.1 (WW_one hR (f := 2) (i := 0) rfl) 0 0 rfl rfl g5 dX6_riskOf_38 ?_
      refine lv_ineg hx hb dX6_riskOf_39 ?_
      refine lv_aload_n hx hb dX6_riskOf_40 rfl (lv_at hl 2 rfl) ?_
      refine va_get (D := D) (ci := 7) (C := RX6) (T := TX6) (N := 22) hx hb hts iuX6 hown hK.1 (WW_one hR (f := 0) (i := 0) rfl) 0 rfl rfl 3 (by decide) (hts _ q_811) (fun _ h9 => h9) rfl dX6_riskOf_41 ?_
      refine lv_iconst (v := 3) hx hb dX6_riskOf_44 (by decide) ?_
      refine lv_iload_n hx hb dX6_riskOf_45 rfl (lv_at hl 3 rfl) ?_
      refine lv_imul hx hb dX6_riskOf_46 ?_
      refine lv_iload_n hx hb dX6_riskOf_47 rfl (lv_at hl 4 rfl) ?_
      refine lv_iadd hx hb dX6_riskOf_48 ?_
      obtain ⟨g6, hf⟩ := gd_of hf
      refine va_iald hx hb hK.1 (WW_one hR (f := 4) (i := 0) rfl) 0 0 rfl rfl g6 dX6_riskOf_49 ?_
      refine lv_imul hx hb dX6_riskOf_50 ?_
      refine lv_topi (fun x7 hx7 => ?_)
      have hf := kst_eq hx7 hf
      refine lv_istore (lv' := [(5, .int x7), (4, .int v4), (3, .int v3), (0, .ref (ad 0 0)), (1, .int v1), (2, .int v2)]) hx hb dX6_riskOf_51 hl (by decide) rfl (fun ls hl => ?_)
      refine lv_iload hx hb dX6_riskOf_53 (lv_at hl 0 rfl) ?_
      refine lv_iload_n hx hb dX6_riskOf_55 rfl (lv_at hl 2 rfl) ?_
      refine lv_icmp_le (tgt := 64) hx hb dX6_riskOf_56 (by decide) (fun c8 => ?_) (fun c8 => ?_)
      · have hf := if_of_pos hf c8
        refine lv_iload_n hx hb dX6_riskOf_64 rfl (lv_at hl 2 rfl) ?_
        refine lv_istore_n (lv' := [(3, .int v3), (5, .int x7), (4, .int v4), (0, .ref (ad 0 0)), (1, .int v1), (2, .int v2)]) hx hb dX6_riskOf_65 rfl hl (by decide) rfl (fun ls hl => ?_)
        obtain ⟨x9, hx9⟩ : ∃ y : Int32, y = v4 + 1 := ⟨_, rfl⟩
        have hf := kst_eq hx9 hf
        refine lv_iinc (v := x9) (lv' := [(4, .int x9), (3, .int v3), (5, .int x7), (0, .ref (ad 0 0)), (1, .int v1), (2, .int v2)]) hx hb dX6_riskOf_66 hl (k := 2) rfl (by rw [hx9]; rfl) (by decide) rfl (fun ls hl => ?_)
        refine lv_goto (tgt := 22) hx hb dX6_riskOf_69 (by decide) ?_
        exact ih _ _ _ x9 v3 v1 v2 hR hS (lv_sub hl [0, 1, 3, 4, 5] rfl) hf
      · have hf := if_of_neg hf c8
        refine lv_iload hx hb dX6_riskOf_59 (lv_at hl 0 rfl) ?_
        refine lv_goto (tgt := 65) hx hb dX6_riskOf_61 (by decide) ?_
        refine lv_istore_n (lv' := [(3, .int x7), (5, .int x7), (4, .int v4), (0, .ref (ad 0 0)), (1, .int v1), (2, .int v2)]) hx hb dX6_riskOf_65 rfl hl (by decide) rfl (fun ls hl => ?_)
        obtain ⟨x10, hx10⟩ : ∃ y : Int32, y = v4 + 1 := ⟨_, rfl⟩
        have hf := kst_eq hx10 hf
        refine lv_iinc (v := x10) (lv' := [(4, .int x10), (3, .int x7), (5, .int x7), (0, .ref (ad 0 0)), (1, .int v1), (2, .int v2)]) hx hb dX6_riskOf_66 hl (k := 2) rfl (by rw [hx10]; rfl) (by decide) rfl (fun ls hl => ?_)
        refine lv_goto (tgt := 22) hx hb dX6_riskOf_69 (by decide) ?_
        exact ih _ _ _ x10 x7 v1 v2 hR hS (lv_sub hl [0, 1, 3, 4, 5] rfl) hf
def fX6_riskOf (σ : St) (a1 : Int32) (a2 : Int32) : Option (Int32) := gd (vin a2 12) (gd (vin ((3 * a1) + a2) 15) (kst ((-(gI σ 2 0 a2.toNatClampNeg)) * (gI σ 4 0 ((3 * a1) + a2).toNatClampNeg)) (fun x3 => fX6_riskOf_L22 σ 1000 1 x3 a1 a2)))
set_option maxHeartbeats 4000000 in
set_option maxRecDepth 100000 in
theorem mX6_riskOf (l : Launch) (D : va_G) (dA : Nat → ClassId) (ad : Nat → Nat → Nat) (σ : St) (sz : Nat) (a1 : Int32) (a2 : Int32) (r : Int32) (hf : fX6_riskOf σ a1 a2 = some r) : Met l yX6_riskOf (WSy yX6_riskOf cX6_riskOf 6 (some .int)) ({ frames := 0, cells := 0, slots := 0, locals := 0 } : Room) (va_Pc [.ref (ad 0 0), .int a1, .int a2] (fun U => U.heap.size = sz ∧ HM D dA (fun _ => True) ad σ U.heap ∧ KS D dA U)) (va_Qi (fun (x : Int32) (_ : Unit) => x = r) (fun _ t => HM D dA (WA ad (cvM σ) sz) ad σ t.heap) (WA ad (cvM σ) sz)) 0 0 (WA ad (cvM σ) sz) := by
  refine met_of (by decide) (Nat.le_of_ble_eq_true rfl) ?_
  intro p e s m below meth c ls hC hB hl
  obtain ⟨rfl, hR, hK⟩ := hB
  have hA : ∀ q : Nat, s.heap.size ≤ q → WA ad (cvM σ) s.heap.size q := fun q h => Or.inr h
  have hR := WW_fit (B := WA ad (cvM σ) s.heap.size) hR (fun f i h => WA_in h)
  have hS : va_S (WA ad (cvM σ) s.heap.size) s.heap s.heap [] := va_S.rf
  generalize WA ad (cvM σ) s.heap.size = A0 at hA hR hS ⊢
  have hC : CTX p s m _ meth c cX6_riskOf 6 RX6 (some .int) := hC
  obtain ⟨hx, hb, hml, hown, hts, hr, hlk⟩ := id hC
  have hl : lv_has ls 6 [(0, .ref (ad 0 0)), (1, .int a1), (2, .int a2)] := hl
  unfold fX6_riskOf at hf
  refine lv_aload_n hx hb dX6_riskOf_0 rfl (lv_at hl 0 rfl) ?_
  refine va_get (D := D) (ci := 7) (C := RX6) (T := TX6) (N := 22) hx hb hts iuX6 hown hK.1 (WW_one hR (f := 0) (i := 0) rfl) 0 rfl rfl 1 (by decide) (hts _ q_809) (fun _ h9 => h9) rfl dX6_riskOf_1 ?_
  refine lv_iload_n hx hb dX6_riskOf_4 rfl (lv_at hl 2 rfl) ?_
  obtain ⟨g1, hf⟩ := gd_of hf
  refine va_iald hx hb hK.1 (WW_one hR (f := 2) (i := 0) rfl) 0 0 rfl rfl g1 dX6_riskOf_5 ?_
  refine lv_ineg hx hb dX6_riskOf_6 ?_
  refine lv_aload_n hx hb dX6_riskOf_7 rfl (lv_at hl 0 rfl) ?_
  refine va_get (D := D) (ci := 7) (C := RX6) (T := TX6) (N := 22) hx hb hts iuX6 hown hK.1 (WW_one hR (f := 0) (i := 0) rfl) 0 rfl rfl 3 (by decide) (hts _ q_811) (fun _ h9 => h9) rfl dX6_riskOf_8 ?_
  refine lv_iconst (v := 3) hx hb dX6_riskOf_11 (by decide) ?_
  refine lv_iload_n hx hb dX6_riskOf_12 rfl (lv_at hl 1 rfl) ?_
  refine lv_imul hx hb dX6_riskOf_13 ?_
  refine lv_iload_n hx hb dX6_riskOf_14 rfl (lv_at hl 2 rfl) ?_
  refine lv_iadd hx hb dX6_riskOf_15 ?_
  obtain ⟨g2, hf⟩ := gd_of hf
  refine va_iald hx hb hK.1 (WW_one hR (f := 4) (i := 0) rfl) 0 0 rfl rfl g2 dX6_riskOf_16 ?_
  refine lv_imul hx hb dX6_riskOf_17 ?_
  refine lv_topi (fun x3 hx3 => ?_)
  have hf := kst_eq hx3 hf
  refine lv_istore_n (lv' := [(3, .int x3), (0, .ref (ad 0 0)), (1, .int a1), (2, .int a2)]) hx hb dX6_riskOf_18 rfl hl (by decide) rfl (fun ls hl => ?_)
  refine lv_iconst (v := 1) hx hb dX6_riskOf_19 (by decide) ?_
  refine lv_istore (lv' := [(4, .int 1), (3, .int x3), (0, .ref (ad 0 0)), (1, .int a1), (2, .int a2)]) hx hb dX6_riskOf_20 hl (by decide) rfl (fun ls hl => ?_)
  exact wX6_riskOf_L22 hC hK hA 1000 _ _ _ 1 x3 a1 a2 hR hS (lv_sub hl [0, 1, 2, 3, 4] rfl) hf
def fX6_nextOpen_L4 (σ : St) : Nat → Int32 → Int32 → Option (Int32)
  | 0, _, _ => none
  | n + 1, v2, v1 => if 3 ≤ v2 then some (v1) else gd (vin v2 3) (if (gI σ 18 0 v2.toNatClampNeg) = 0 then kst (v2 + 1) (fun x4 => fX6_nextOpen_L4 σ n x4 v1) else if v1 = (-1) then kst (v2 + 1) (fun x6 => fX6_nextOpen_L4 σ n x6 v2) else gd (vin v1 3) (if (gI σ 17 0 v2.toNatClampNeg) ≤ (gI σ 17 0 v1.toNatClampNeg) then kst (v2 + 1) (fun x9 => fX6_nextOpen_L4 σ n x9 v1) else kst (v2 + 1) (fun x10 => fX6_nextOpen_L4 σ n x10 v2)))
set_option maxHeartbeats 4000000 in
set_option maxRecDepth 100000 in
theorem wX6_nextOpen_L4 {p : Program} {l : Launch} {e : Env} {s : State} {m : MethodId} {args : Array Value} {below : List Frame} {meth : Method} {c : Code} {D : va_G} {dA : Nat → ClassId} {A0 : Nat → Prop} {ad : Nat → Nat → Nat} {r : Int32} {σ : St} (hC : CTX p s m args meth c cX6_nextOpen 3 RX6 (some .int)) (hK : KS D dA s) (hA : ∀ q, s.heap.size ≤ q → A0 q) : ∀ (n : Nat) (H : Heap) (locs : List Loc) (ls : Array Slot) (v2 : Int32) (v1 : Int32), HM D dA A0 ad σ H → va_S A0 s.heap H locs → lv_has ls 3 [(2, .int v2), (1, .int v1), (0, .ref (ad 0 0))] → fX6_nextOpen_L4 σ n v2 v1 = some r → W p l e ({ frames := 0, cells := 0, slots := 0, locals := 0 } : Room) s m args below meth c H locs 0 0 (MQ below (va_Qi (fun (x : Int32) (_ : Unit) => x = r) (fun _ t => HM D dA A0 ad σ t.heap) A0) args s 0 0 A0) (F0 m 4 ls []) := by
  obtain ⟨hx, hb, hml, hown, hts, hr, hlk⟩ := id hC
  intro n
  induction n with
  | zero =>
    intro H locs ls v2 v1 hR hS hl hf
    rw [fX6_nextOpen_L4.eq_1] at hf
    cases hf
  | succ n ih =>
    intro H locs ls v2 v1 hR hS hl hf
    rw [fX6_nextOpen_L4.eq_2] at hf
    refine lv_iload_n hx hb dX6_nextOpen_4 rfl (lv_at hl 0 rfl) ?_
    refine lv_iconst (v := 3) hx hb dX6_nextOpen_5 (by decide) ?_
    refine lv_icmp_ge (tgt := 50) hx hb dX6_nextOpen_6 (by decide) (fun c1 => ?_) (fun c1 => ?_)
    · have hf := if_of_pos hf c1
      refine lv_iload_n hx hb dX6_nextOpen_50 rfl (lv_at hl 1 rfl) ?_
      cases hf
      exact ret_i hC hR hS dX6_nextOpen_51
    · have hf := if_of_neg hf c1
      refine lv_aload_n hx hb dX6_nextOpen_9 rfl (lv_at hl 2 rfl) ?_
      refine va_get (D := D) (ci := 7) (C := RX6) (T := TX6) (N := 22) hx hb hts iuX6 hown hK.1 (WW_one hR (f := 0) (i := 0) rfl) 0 rfl rfl 20 (by decide) (hts _ q_828) (fun _ h9 => h9) rfl dX6_nextOpen_10 ?_
      refine lv_iload_n hx hb dX6_nextOpen_13 rfl (lv_at hl 0 rfl) ?_
      obtain ⟨g2, hf⟩ := gd_of hf
      refine va_zald hx hb hK.1 (WW_one hR (f := 18) (i := 0) rfl) 0 2 rfl rfl g2 dX6_nextOpen_14 ?_
      refine lv_if_eq (tgt := 42) hx hb dX6_nextOpen_15 (by decide) (fun c3 => ?_) (fun c3 => ?_)
      · have hf := if_of_pos hf c3
        refine lv_iload_n hx hb dX6_nextOpen_42 rfl (lv_at hl 1 rfl) ?_
        refine lv_istore_n (lv' := [(1, .int v1), (2, .int v2), (0, .ref (ad 0 0))]) hx hb dX6_nextOpen_43 rfl hl (by decide) rfl (fun ls hl => ?_)
        obtain ⟨x4, hx4⟩ : ∃ y : Int32, y = v2 + 1 := ⟨_, rfl⟩
        have hf := kst_eq hx4 hf
        refine lv_iinc (v := x4) (lv' := [(2, .int x4), (1, .int v1), (0, .ref (ad 0 0))]) hx hb dX6_nextOpen_44 hl (k := 1) rfl (by rw [hx4]; rfl) (by decide) rfl (fun ls hl => ?_)
        refine lv_goto (tgt := 4) hx hb dX6_nextOpen_47 (by decide) ?_
        exact ih _ _ _ x4 v1 hR hS (lv_sub hl [0, 1, 2] rfl) hf
      · have hf := if_of_neg hf c3
        refine lv_iload_n hx hb dX6_nextOpen_18 rfl (lv_at hl 1 rfl) ?_
        refine lv_iconst (v := (-1)) hx hb dX6_nextOpen_19 (by decide) ?_
        refine lv_icmp_eq (tgt := 38) hx hb dX6_nextOpen_20 (by decide) (fun c5 => ?_) (fun c5 => ?_)
        · have hf := if_of_pos hf c5
          refine lv_iload_n hx hb dX6_nextOpen_38 rfl (lv_at hl 0 rfl) ?_
          refine lv_goto (tgt := 43) hx hb dX6_nextOpen_39 (by decide) ?_
          refine lv_istore_n (lv' := [(1, .int v2), (2, .int v2), (0, .ref (ad 0 0))]) hx hb dX6_nextOpen_43 rfl hl (by decide) rfl (fun ls hl => ?_)
          obtain ⟨x6, hx6⟩ : ∃ y : Int32, y = v2 + 1 := ⟨_, rfl⟩
          have hf := kst_eq hx6 hf
          refine lv_iinc (v := x6) (lv' := [(2, .int x6), (1, .int v2), (0, .ref (ad 0 0))]) hx hb dX6_nextOpen_44 hl (k := 1) rfl (by rw [hx6]; rfl) (by decide) rfl (fun ls hl => ?_)
          refine lv_goto (tgt := 4) hx hb dX6_nextOpen_47 (by decide) ?_
          exact ih _ _ _ x6 v2 hR hS (lv_sub hl [0, 1, 2] rfl) hf
        · have hf := if_of_neg hf c5
          refine lv_aload_n hx hb dX6_nextOpen_23 rfl (lv_at hl 2 rfl) ?_
          refine va_get (D := D) (ci := 7) (C := RX6) (T := TX6) (N := 22) hx hb hts iuX6 hown hK.1 (WW_one hR (f := 0) (i := 0) rfl) 0 rfl rfl 19 (by decide) (hts _ q_827) (fun _ h9 => h9) rfl dX6_nextOpen_24 ?_
          refine lv_iload_n hx hb dX6_nextOpen_27 rfl (lv_at hl 0 rfl) ?_
          refine va_iald hx hb hK.1 (WW_one hR (f := 17) (i := 0) rfl) 0 0 rfl rfl g2 dX6_nextOpen_28 ?_
          refine lv_aload_n hx hb dX6_nextOpen_29 rfl (lv_at hl 2 rfl) ?_
          refine va_get (D := D) (ci := 7) (C := RX6) (T := TX6) (N := 22) hx hb hts iuX6 hown hK.1 (WW_one hR (f := 0) (i := 0) rfl) 0 rfl rfl 19 (by decide) (hts _ q_827) (fun _ h9 => h9) rfl dX6_nextOpen_30 ?_
          refine lv_iload_n hx hb dX6_nextOpen_33 rfl (lv_at hl 1 rfl) ?_
          obtain ⟨g7, hf⟩ := gd_of hf
          refine va_iald hx hb hK.1 (WW_one hR (f := 17) (i := 0) rfl) 0 0 rfl rfl g7 dX6_nextOpen_34 ?_
          refine lv_icmp_le (tgt := 42) hx hb dX6_nextOpen_35 (by decide) (fun c8 => ?_) (fun c8 => ?_)
          · have hf := if_of_pos hf c8
            refine lv_iload_n hx hb dX6_nextOpen_42 rfl (lv_at hl 1 rfl) ?_
            refine lv_istore_n (lv' := [(1, .int v1), (2, .int v2), (0, .ref (ad 0 0))]) hx hb dX6_nextOpen_43 rfl hl (by decide) rfl (fun ls hl => ?_)
            obtain ⟨x9, hx9⟩ : ∃ y : Int32, y = v2 + 1 := ⟨_, rfl⟩
            have hf := kst_eq hx9 hf
            refine lv_iinc (v := x9) (lv' := [(2, .int x9), (1, .int v1), (0, .ref (ad 0 0))]) hx hb dX6_nextOpen_44 hl (k := 1) rfl (by rw [hx9]; rfl) (by decide) rfl (fun ls hl => ?_)
            refine lv_goto (tgt := 4) hx hb dX6_nextOpen_47 (by decide) ?_
            exact ih _ _ _ x9 v1 hR hS (lv_sub hl [0, 1, 2] rfl) hf
          · have hf := if_of_neg hf c8
            refine lv_iload_n hx hb dX6_nextOpen_38 rfl (lv_at hl 0 rfl) ?_
            refine lv_goto (tgt := 43) hx hb dX6_nextOpen_39 (by decide) ?_
            refine lv_istore_n (lv' := [(1, .int v2), (2, .int v2), (0, .ref (ad 0 0))]) hx hb dX6_nextOpen_43 rfl hl (by decide) rfl (fun ls hl => ?_)
            obtain ⟨x10, hx10⟩ : ∃ y : Int32, y = v2 + 1 := ⟨_, rfl⟩
            have hf := kst_eq hx10 hf
            refine lv_iinc (v := x10) (lv' := [(2, .int x10), (1, .int v2), (0, .ref (ad 0 0))]) hx hb dX6_nextOpen_44 hl (k := 1) rfl (by rw [hx10]; rfl) (by decide) rfl (fun ls hl => ?_)
            refine lv_goto (tgt := 4) hx hb dX6_nextOpen_47 (by decide) ?_
            exact ih _ _ _ x10 v2 hR hS (lv_sub hl [0, 1, 2] rfl) hf
def fX6_nextOpen (σ : St) : Option (Int32) := fX6_nextOpen_L4 σ 1000 0 (-1)
set_option maxHeartbeats 4000000 in
set_option maxRecDepth 100000 in
theorem mX6_nextOpen (l : Launch) (D : va_G) (dA : Nat → ClassId) (ad : Nat → Nat → Nat) (σ : St) (sz : Nat) (r : Int32) (hf : fX6_nextOpen σ = some r) : Met l yX6_nextOpen (WSy yX6_nextOpen cX6_nextOpen 3 (some .int)) ({ frames := 0, cells := 0, slots := 0, locals := 0 } : Room) (va_Pc [.ref (ad 0 0)] (fun U => U.heap.size = sz ∧ HM D dA (fun _ => True) ad σ U.heap ∧ KS D dA U)) (va_Qi (fun (x : Int32) (_ : Unit) => x = r) (fun _ t => HM D dA (WA ad (cvM σ) sz) ad σ t.heap) (WA ad (cvM σ) sz)) 0 0 (WA ad (cvM σ) sz) := by
  refine met_of (by decide) (Nat.le_of_ble_eq_true rfl) ?_
  intro p e s m below meth c ls hC hB hl
  obtain ⟨rfl, hR, hK⟩ := hB
  have hA : ∀ q : Nat, s.heap.size ≤ q → WA ad (cvM σ) s.heap.size q := fun q h => Or.inr h
  have hR := WW_fit (B := WA ad (cvM σ) s.heap.size) hR (fun f i h => WA_in h)
  have hS : va_S (WA ad (cvM σ) s.heap.size) s.heap s.heap [] := va_S.rf
  generalize WA ad (cvM σ) s.heap.size = A0 at hA hR hS ⊢
  have hC : CTX p s m _ meth c cX6_nextOpen 3 RX6 (some .int) := hC
  obtain ⟨hx, hb, hml, hown, hts, hr, hlk⟩ := id hC
  have hl : lv_has ls 3 [(0, .ref (ad 0 0))] := hl
  unfold fX6_nextOpen at hf
  refine lv_iconst (v := (-1)) hx hb dX6_nextOpen_0 (by decide) ?_
  refine lv_istore_n (lv' := [(1, .int (-1)), (0, .ref (ad 0 0))]) hx hb dX6_nextOpen_1 rfl hl (by decide) rfl (fun ls hl => ?_)
  refine lv_iconst (v := 0) hx hb dX6_nextOpen_2 (by decide) ?_
  refine lv_istore_n (lv' := [(2, .int 0), (1, .int (-1)), (0, .ref (ad 0 0))]) hx hb dX6_nextOpen_3 rfl hl (by decide) rfl (fun ls hl => ?_)
  exact wX6_nextOpen_L4 hC hK hA 1000 _ _ _ 0 (-1) hR hS (lv_sub hl [0, 1, 2] rfl) hf
def fX6_richest_L4 (σ : St) : Nat → Int32 → Int32 → Int32 → Option (Int32)
  | 0, _, _, _ => none
  | n + 1, v3, v2, v1 => if 5 ≤ v3 then some (v2) else if v3 = v1 then kst (v3 + 1) (fun x4 => fX6_richest_L4 σ n x4 v2 v1) else gd (vin v3 5) (if ¬ (gI σ 10 0 v3.toNatClampNeg) = 0 then kst (v3 + 1) (fun x8 => fX6_richest_L4 σ n x8 v2 v1) else if v2 = (-1) then kst (v3 + 1) (fun x11 => fX6_richest_L4 σ n x11 v3 v1) else bd (fX6_freeOf σ v3) (fun q12 => bd (fX6_freeOf σ v2) (fun q13 => if q12 ≤ q13 then kst (v3 + 1) (fun x15 => fX6_richest_L4 σ n x15 v2 v1) else kst (v3 + 1) (fun x16 => fX6_richest_L4 σ n x16 v3 v1))))
set_option maxHeartbeats 4000000 in
set_option maxRecDepth 100000 in
theorem wX6_richest_L4 {p : Program} {l : Launch} {e : Env} {s : State} {m : MethodId} {args : Array Value} {below : List Frame} {meth : Method} {c : Code} {D : va_G} {dA : Nat → ClassId} {A0 : Nat → Prop} {ad : Nat → Nat → Nat} {r : Int32} {σ : St} (hC : CTX p s m args meth c cX6_richest 5 RX6 (some .int)) (hK : KS D dA s) (hA : ∀ q, s.heap.size ≤ q → A0 q) : ∀ (n : Nat) (H : Heap) (locs : List Loc) (ls : Array Slot) (v3 : Int32) (v2 : Int32) (v1 : Int32), HM D dA A0 ad σ H → va_S A0 s.heap H locs → lv_has ls 5 [(3, .int v3), (2, .int v2), (0, .ref (ad 0 0)), (1, .int v1)] → fX6_richest_L4 σ n v3 v2 v1 = some r → W p l e ({ frames := 3, cells := 0, slots := 0, locals := 74 } : Room) s m args below meth c H locs 0 0 (MQ below (va_Qi (fun (x : Int32) (_ : Unit) => x = r) (fun _ t => HM D dA A0 ad σ t.heap) A0) args s 0 0 A0) (F0 m 4 ls []) := by
  obtain ⟨hx, hb, hml, hown, hts, hr, hlk⟩ := id hC
  intro n
  induction n with
  | zero =>
    intro H locs ls v3 v2 v1 hR hS hl hf
    rw [fX6_richest_L4.eq_1] at hf
    cases hf
  | succ n ih =>
    intro H locs ls v3 v2 v1 hR hS hl hf
    rw [fX6_richest_L4.eq_2] at hf
    refine lv_iload_n hx hb dX6_richest_4 rfl (lv_at hl 0 rfl) ?_
    refine lv_iconst (v := 5) hx hb dX6_richest_5 (by decide) ?_
    refine lv_icmp_ge (tgt := 66) hx hb dX6_richest_6 (by decide) (fun c1 => ?_) (fun c1 => ?_)
    · have hf := if_of_pos hf c1
      refine lv_iload_n hx hb dX6_richest_66 rfl (lv_at hl 1 rfl) ?_
      cases hf
      exact ret_i hC hR hS dX6_richest_67
    · have hf := if_of_neg hf c1
      refine lv_iload_n hx hb dX6_richest_9 rfl (lv_at hl 0 rfl) ?_
      refine lv_iload_n hx hb dX6_richest_10 rfl (lv_at hl 3 rfl) ?_
      refine lv_icmp_eq (tgt := 27) hx hb dX6_richest_11 (by decide) (fun c2 => ?_) (fun c2 => ?_)
      · have hf := if_of_pos hf c2
        refine lv_iconst (v := 0) hx hb dX6_richest_27 (by decide) ?_
        refine lv_istore (lv' := [(4, .int 0), (3, .int v3), (2, .int v2), (0, .ref (ad 0 0)), (1, .int v1)]) hx hb dX6_richest_28 hl (by decide) rfl (fun ls hl => ?_)
        refine lv_iload hx hb dX6_richest_30 (lv_at hl 0 rfl) ?_
        refine lv_if_eq (tgt := 58) hx hb dX6_richest_32 (by decide) (fun c3 => ?_) (fun c3 => absurd (by decide) c3)
        refine lv_iload_n hx hb dX6_richest_58 rfl (lv_at hl 2 rfl) ?_
        refine lv_istore_n (lv' := [(2, .int v2), (4, .int 0), (3, .int v3), (0, .ref (ad 0 0)), (1, .int v1)]) hx hb dX6_richest_59 rfl hl (by decide) rfl (fun ls hl => ?_)
        obtain ⟨x4, hx4⟩ : ∃ y : Int32, y = v3 + 1 := ⟨_, rfl⟩
        have hf := kst_eq hx4 hf
        refine lv_iinc (v := x4) (lv' := [(3, .int x4), (2, .int v2), (4, .int 0), (0, .ref (ad 0 0)), (1, .int v1)]) hx hb dX6_richest_60 hl (k := 2) rfl (by rw [hx4]; rfl) (by decide) rfl (fun ls hl => ?_)
        refine lv_goto (tgt := 4) hx hb dX6_richest_63 (by decide) ?_
        exact ih _ _ _ x4 v2 v1 hR hS (lv_sub hl [0, 1, 3, 4] rfl) hf
      · have hf := if_of_neg hf c2
        refine lv_aload_n hx hb dX6_richest_14 rfl (lv_at hl 2 rfl) ?_
        refine va_get (D := D) (ci := 7) (C := RX6) (T := TX6) (N := 22) hx hb hts iuX6 hown hK.1 (WW_one hR (f := 0) (i := 0) rfl) 0 rfl rfl 9 (by decide) (hts _ q_817) (fun _ h9 => h9) rfl dX6_richest_15 ?_
        refine lv_iload_n hx hb dX6_richest_18 rfl (lv_at hl 0 rfl) ?_
        obtain ⟨g5, hf⟩ := gd_of hf
        refine va_zald hx hb hK.1 (WW_one hR (f := 10) (i := 0) rfl) 0 2 rfl rfl g5 dX6_richest_19 ?_
        refine lv_if_ne (tgt := 27) hx hb dX6_richest_20 (by decide) (fun c6 => ?_) (fun c6 => ?_)
        · have hf := if_of_pos hf c6
          refine lv_iconst (v := 0) hx hb dX6_richest_27 (by decide) ?_
          refine lv_istore (lv' := [(4, .int 0), (3, .int v3), (2, .int v2), (0, .ref (ad 0 0)), (1, .int v1)]) hx hb dX6_richest_28 hl (by decide) rfl (fun ls hl => ?_)
          refine lv_iload hx hb dX6_richest_30 (lv_at hl 0 rfl) ?_
          refine lv_if_eq (tgt := 58) hx hb dX6_richest_32 (by decide) (fun c7 => ?_) (fun c7 => absurd (by decide) c7)
          refine lv_iload_n hx hb dX6_richest_58 rfl (lv_at hl 2 rfl) ?_
          refine lv_istore_n (lv' := [(2, .int v2), (4, .int 0), (3, .int v3), (0, .ref (ad 0 0)), (1, .int v1)]) hx hb dX6_richest_59 rfl hl (by decide) rfl (fun ls hl => ?_)
          obtain ⟨x8, hx8⟩ : ∃ y : Int32, y = v3 + 1 := ⟨_, rfl⟩
          have hf := kst_eq hx8 hf
          refine lv_iinc (v := x8) (lv' := [(3, .int x8), (2, .int v2), (4, .int 0), (0, .ref (ad 0 0)), (1, .int v1)]) hx hb dX6_richest_60 hl (k := 2) rfl (by rw [hx8]; rfl) (by decide) rfl (fun ls hl => ?_)
          refine lv_goto (tgt := 4) hx hb dX6_richest_63 (by decide) ?_
          exact ih _ _ _ x8 v2 v1 hR hS (lv_sub hl [0, 1, 3, 4] rfl) hf
        · have hf := if_of_neg hf (fun q => q c6)
          refine lv_iconst (v := 1) hx hb dX6_richest_23 (by decide) ?_
          refine lv_goto (tgt := 28) hx hb dX6_richest_24 (by decide) ?_
          refine lv_istore (lv' := [(4, .int 1), (3, .int v3), (2, .int v2), (0, .ref (ad 0 0)), (1, .int v1)]) hx hb dX6_richest_28 hl (by decide) rfl (fun ls hl => ?_)
          refine lv_iload hx hb dX6_richest_30 (lv_at hl 0 rfl) ?_
          refine lv_if_eq (tgt := 58) hx hb dX6_richest_32 (by decide) (fun c9 => absurd c9 (by decide)) (fun c9 => ?_)
          refine lv_iload_n hx hb dX6_richest_35 rfl (lv_at hl 2 rfl) ?_
          refine lv_iconst (v := (-1)) hx hb dX6_richest_36 (by decide) ?_
          refine lv_icmp_eq (tgt := 54) hx hb dX6_richest_37 (by decide) (fun c10 => ?_) (fun c10 => ?_)
          · have hf := if_of_pos hf c10
            refine lv_iload_n hx hb dX6_richest_54 rfl (lv_at hl 1 rfl) ?_
            refine lv_goto (tgt := 59) hx hb dX6_richest_55 (by decide) ?_
            refine lv_istore_n (lv' := [(2, .int v3), (4, .int 1), (3, .int v3), (0, .ref (ad 0 0)), (1, .int v1)]) hx hb dX6_richest_59 rfl hl (by decide) rfl (fun ls hl => ?_)
            obtain ⟨x11, hx11⟩ : ∃ y : Int32, y = v3 + 1 := ⟨_, rfl⟩
            have hf := kst_eq hx11 hf
            refine lv_iinc (v := x11) (lv' := [(3, .int x11), (2, .int v3), (4, .int 1), (0, .ref (ad 0 0)), (1, .int v1)]) hx hb dX6_richest_60 hl (k := 2) rfl (by rw [hx11]; rfl) (by decide) rfl (fun ls hl => ?_)
            refine lv_goto (tgt := 4) hx hb dX6_richest_63 (by decide) ?_
            exact ih _ _ _ x11 v3 v1 hR hS (lv_sub hl [0, 1, 3, 4] rfl) hf
          · have hf := if_of_neg hf c10
            refine lv_aload_n hx hb dX6_richest_40 rfl (lv_at hl 3 rfl) ?_
            refine lv_iload_n hx hb dX6_richest_41 rfl (lv_at hl 1 rfl) ?_
            obtain ⟨q12, hcq12, hf⟩ := bd_of hf
            refine kc_l (va_runV (As := [.int v3]) (rest := []) ⟨hx, hb, hml, hown, hts⟩ (mX6_freeOf l D dA ad σ _ v3 q12 hcq12) (cwV 1 hts gX6_114 rfl rfl rfl (by decide +kernel) ⟨Nat.le_of_ble_eq_true rfl, Nat.le_of_ble_eq_true rfl⟩) (preV_of hR hK (f := 0) (i := 0) rfl rfl rfl _) rfl rfl hl.1 rfl (lv_room (Nat.le_of_ble_eq_true rfl)) dX6_richest_42 ⟨Nat.zero_le _, Nat.zero_le _⟩) hA hR hS (fun H locs hR hS => ?_)
            refine lv_aload_n hx hb dX6_richest_45 rfl (lv_at hl 3 rfl) ?_
            refine lv_iload_n hx hb dX6_richest_46 rfl (lv_at hl 2 rfl) ?_
            obtain ⟨q13, hcq13, hf⟩ := bd_of hf
            refine kc_l (va_runV (As := [.int v2]) (rest := [.long q12]) ⟨hx, hb, hml, hown, hts⟩ (mX6_freeOf l D dA ad σ _ v2 q13 hcq13) (cwV 1 hts gX6_114 rfl rfl rfl (by decide +kernel) ⟨Nat.le_of_ble_eq_true rfl, Nat.le_of_ble_eq_true rfl⟩) (preV_of hR hK (f := 0) (i := 0) rfl rfl rfl _) rfl rfl hl.1 rfl (lv_room (Nat.le_of_ble_eq_true rfl)) dX6_richest_47 ⟨Nat.zero_le _, Nat.zero_le _⟩) hA hR hS (fun H locs hR hS => ?_)
            refine W.lcmp hx hb dX6_richest_50 ?_
            refine lv_if_le (tgt := 58) hx hb dX6_richest_51 (by decide) (fun c140 => ?_) (fun c140 => ?_)
            · have c14 : q12 ≤ q13 := (lg_cmp_le _ _).mp c140
              have hf := if_of_pos hf c14
              refine lv_iload_n hx hb dX6_richest_58 rfl (lv_at hl 2 rfl) ?_
              refine lv_istore_n (lv' := [(2, .int v2), (4, .int 1), (3, .int v3), (0, .ref (ad 0 0)), (1, .int v1)]) hx hb dX6_richest_59 rfl hl (by decide) rfl (fun ls hl => ?_)
              obtain ⟨x15, hx15⟩ : ∃ y : Int32, y = v3 + 1 := ⟨_, rfl⟩
              have hf := kst_eq hx15 hf
              refine lv_iinc (v := x15) (lv' := [(3, .int x15), (2, .int v2), (4, .int 1), (0, .ref (ad 0 0)), (1, .int v1)]) hx hb dX6_richest_60 hl (k := 2) rfl (by rw [hx15]; rfl) (by decide) rfl (fun ls hl => ?_)
              refine lv_goto (tgt := 4) hx hb dX6_richest_63 (by decide) ?_
              exact ih _ _ _ x15 v2 v1 hR hS (lv_sub hl [0, 1, 3, 4] rfl) hf
            · have c14 : ¬ (q12 ≤ q13) := fun q => c140 ((lg_cmp_le _ _).mpr q)
              have hf := if_of_neg hf c14
              refine lv_iload_n hx hb dX6_richest_54 rfl (lv_at hl 1 rfl) ?_
              refine lv_goto (tgt := 59) hx hb dX6_richest_55 (by decide) ?_
              refine lv_istore_n (lv' := [(2, .int v3), (4, .int 1), (3, .int v3), (0, .ref (ad 0 0)), (1, .int v1)]) hx hb dX6_richest_59 rfl hl (by decide) rfl (fun ls hl => ?_)
              obtain ⟨x16, hx16⟩ : ∃ y : Int32, y = v3 + 1 := ⟨_, rfl⟩
              have hf := kst_eq hx16 hf
              refine lv_iinc (v := x16) (lv' := [(3, .int x16), (2, .int v3), (4, .int 1), (0, .ref (ad 0 0)), (1, .int v1)]) hx hb dX6_richest_60 hl (k := 2) rfl (by rw [hx16]; rfl) (by decide) rfl (fun ls hl => ?_)
              refine lv_goto (tgt := 4) hx hb dX6_richest_63 (by decide) ?_
              exact ih _ _ _ x16 v3 v1 hR hS (lv_sub hl [0, 1, 3, 4] rfl) hf
def fX6_richest (σ : St) (a1 : Int32) : Option (Int32) := fX6_richest_L4 σ 1000 0 (-1) a1
set_option maxHeartbeats 4000000 in
set_option maxRecDepth 100000 in
theorem mX6_richest (l : Launch) (D : va_G) (dA : Nat → ClassId) (ad : Nat → Nat → Nat) (σ : St) (sz : Nat) (a1 : Int32) (r : Int32) (hf : fX6_richest σ a1 = some r) : Met l yX6_richest (WSy yX6_richest cX6_richest 5 (some .int)) ({ frames := 3, cells := 0, slots := 0, locals := 74 } : Room) (va_Pc [.ref (ad 0 0), .int a1] (fun U => U.heap.size = sz ∧ HM D dA (fun _ => True) ad σ U.heap ∧ KS D dA U)) (va_Qi (fun (x : Int32) (_ : Unit) => x = r) (fun _ t => HM D dA (WA ad (cvM σ) sz) ad σ t.heap) (WA ad (cvM σ) sz)) 0 0 (WA ad (cvM σ) sz) := by
  refine met_of (by decide) (Nat.le_of_ble_eq_true rfl) ?_
  intro p e s m below meth c ls hC hB hl
  obtain ⟨rfl, hR, hK⟩ := hB
  have hA : ∀ q : Nat, s.heap.size ≤ q → WA ad (cvM σ) s.heap.size q := fun q h => Or.inr h
  have hR := WW_fit (B := WA ad (cvM σ) s.heap.size) hR (fun f i h => WA_in h)
  have hS : va_S (WA ad (cvM σ) s.heap.size) s.heap s.heap [] := va_S.rf
  generalize WA ad (cvM σ) s.heap.size = A0 at hA hR hS ⊢
  have hC : CTX p s m _ meth c cX6_richest 5 RX6 (some .int) := hC
  obtain ⟨hx, hb, hml, hown, hts, hr, hlk⟩ := id hC
  have hl : lv_has ls 5 [(0, .ref (ad 0 0)), (1, .int a1)] := hl
  unfold fX6_richest at hf
  refine lv_iconst (v := (-1)) hx hb dX6_richest_0 (by decide) ?_
  refine lv_istore_n (lv' := [(2, .int (-1)), (0, .ref (ad 0 0)), (1, .int a1)]) hx hb dX6_richest_1 rfl hl (by decide) rfl (fun ls hl => ?_)
  refine lv_iconst (v := 0) hx hb dX6_richest_2 (by decide) ?_
  refine lv_istore_n (lv' := [(3, .int 0), (2, .int (-1)), (0, .ref (ad 0 0)), (1, .int a1)]) hx hb dX6_richest_3 rfl hl (by decide) rfl (fun ls hl => ?_)
  exact wX6_richest_L4 hC hK hA 1000 _ _ _ 0 (-1) a1 hR hS (lv_sub hl [0, 1, 2, 3] rfl) hf
def fX6_fails (σ : St) (a1 : Int32) : Option (Int32 × St) := some ((0, pI σ 23 0 0 a1))
set_option maxHeartbeats 4000000 in
set_option maxRecDepth 100000 in
theorem mX6_fails (l : Launch) (D : va_G) (dA : Nat → ClassId) (ad : Nat → Nat → Nat) (σ : St) (sz : Nat) (a1 : Int32) (r : Int32) (σ' : St) (hf : fX6_fails σ a1 = some (r, σ')) : Met l yX6_fails (WSy yX6_fails cX6_fails 2 (some .int)) ({ frames := 0, cells := 0, slots := 0, locals := 0 } : Room) (va_Pc [.ref (ad 0 0), .int a1] (fun U => U.heap.size = sz ∧ HM D dA (fun _ => True) ad σ U.heap ∧ KS D dA U)) (va_Qi (fun (x : Int32) (_ : Unit) => x = r) (fun _ t => HM D dA (WA ad (cvM σ) sz) ad σ' t.heap) (WA ad (cvM σ) sz)) 0 0 (WA ad (cvM σ) sz) := by
  refine met_of (by decide) (Nat.le_of_ble_eq_true rfl) ?_
  intro p e s m below meth c ls hC hB hl
  obtain ⟨rfl, hR, hK⟩ := hB
  have hA : ∀ q : Nat, s.heap.size ≤ q → WA ad (cvM σ) s.heap.size q := fun q h => Or.inr h
  have hR := WW_fit (B := WA ad (cvM σ) s.heap.size) hR (fun f i h => WA_in h)
  have hS : va_S (WA ad (cvM σ) s.heap.size) s.heap s.heap [] := va_S.rf
  generalize WA ad (cvM σ) s.heap.size = A0 at hA hR hS ⊢
  have hC : CTX p s m _ meth c cX6_fails 2 RX6 (some .int) := hC
  obtain ⟨hx, hb, hml, hown, hts, hr, hlk⟩ := id hC
  have hl : lv_has ls 2 [(0, .ref (ad 0 0)), (1, .int a1)] := hl
  unfold fX6_fails at hf
  refine lv_aload_n hx hb dX6_fails_0 rfl (lv_at hl 0 rfl) ?_
  refine lv_iload_n hx hb dX6_fails_1 rfl (lv_at hl 1 rfl) ?_
  refine ww_put (D := D) (ci := 7) (C := RX6) (T := TX6) (N := 22) (ty := .int) hx hb hts iuX6 tyX6 tyX6_ok nmX6 hown hK.1 hR hS (f := 0) (i := 0) rfl rfl rfl 21 (by decide) (hts _ q_829) (fun _ h9 => h9) rfl (by decide +kernel) rfl rfl (Nat.le_of_ble_eq_true rfl) dX6_fails_2 (fun H locs hR hS => ?_)
  have hR := HM_model_thrown 0 a1 hR
  refine lv_iconst (v := 0) hx hb dX6_fails_5 (by decide) ?_
  cases hf
  exact ret_i hC hR hS dX6_fails_6
def fX6_asks (σ : St) (a1 : Int32) : Option (Int32 × St) := if a1 = 0 then gd (bz a1) (some ((a1, pI σ 23 0 0 1))) else gd (bz a1) (some ((a1, pI σ 23 0 0 0)))
set_option maxHeartbeats 4000000 in
set_option maxRecDepth 100000 in
theorem mX6_asks (l : Launch) (D : va_G) (dA : Nat → ClassId) (ad : Nat → Nat → Nat) (σ : St) (sz : Nat) (a1 : Int32) (r : Int32) (σ' : St) (hf : fX6_asks σ a1 = some (r, σ')) : Met l yX6_asks (WSy yX6_asks cX6_asks 2 (some .boolean)) ({ frames := 0, cells := 0, slots := 0, locals := 0 } : Room) (va_Pc [.ref (ad 0 0), .int a1] (fun U => U.heap.size = sz ∧ HM D dA (fun _ => True) ad σ U.heap ∧ KS D dA U)) (va_Qi (fun (x : Int32) (_ : Unit) => x = r) (fun _ t => HM D dA (WA ad (cvM σ) sz) ad σ' t.heap) (WA ad (cvM σ) sz)) 0 0 (WA ad (cvM σ) sz) := by
  refine met_of (by decide) (Nat.le_of_ble_eq_true rfl) ?_
  intro p e s m below meth c ls hC hB hl
  obtain ⟨rfl, hR, hK⟩ := hB
  have hA : ∀ q : Nat, s.heap.size ≤ q → WA ad (cvM σ) s.heap.size q := fun q h => Or.inr h
  have hR := WW_fit (B := WA ad (cvM σ) s.heap.size) hR (fun f i h => WA_in h)
  have hS : va_S (WA ad (cvM σ) s.heap.size) s.heap s.heap [] := va_S.rf
  generalize WA ad (cvM σ) s.heap.size = A0 at hA hR hS ⊢
  have hC : CTX p s m _ meth c cX6_asks 2 RX6 (some .boolean) := hC
  obtain ⟨hx, hb, hml, hown, hts, hr, hlk⟩ := id hC
  have hl : lv_has ls 2 [(0, .ref (ad 0 0)), (1, .int a1)] := hl
  unfold fX6_asks at hf
  refine lv_aload_n hx hb dX6_asks_0 rfl (lv_at hl 0 rfl) ?_
  refine lv_iload_n hx hb dX6_asks_1 rfl (lv_at hl 1 rfl) ?_
  refine lv_if_eq (tgt := 9) hx hb dX6_asks_2 (by decide) (fun c1 => ?_) (fun c1 => ?_)
  · have hf := if_of_pos hf c1
    refine lv_iconst (v := 1) hx hb dX6_asks_9 (by decide) ?_
    refine ww_put (D := D) (ci := 7) (C := RX6) (T := TX6) (N := 22) (ty := .int) hx hb hts iuX6 tyX6 tyX6_ok nmX6 hown hK.1 hR hS (f := 0) (i := 0) rfl rfl rfl 21 (by decide) (hts _ q_829) (fun _ h9 => h9) rfl (by decide +kernel) rfl rfl (Nat.le_of_ble_eq_true rfl) dX6_asks_10 (fun H locs hR hS => ?_)
    have hR := HM_model_thrown 0 1 hR
    refine lv_iload_n hx hb dX6_asks_13 rfl (lv_at hl 1 rfl) ?_
    obtain ⟨g2, hf⟩ := gd_of hf
    cases hf
    exact ret_z hC hR hS g2 dX6_asks_14
  · have hf := if_of_neg hf c1
    refine lv_iconst (v := 0) hx hb dX6_asks_5 (by decide) ?_
    refine lv_goto (tgt := 10) hx hb dX6_asks_6 (by decide) ?_
    refine ww_put (D := D) (ci := 7) (C := RX6) (T := TX6) (N := 22) (ty := .int) hx hb hts iuX6 tyX6 tyX6_ok nmX6 hown hK.1 hR hS (f := 0) (i := 0) rfl rfl rfl 21 (by decide) (hts _ q_829) (fun _ h9 => h9) rfl (by decide +kernel) rfl rfl (Nat.le_of_ble_eq_true rfl) dX6_asks_10 (fun H locs hR hS => ?_)
    have hR := HM_model_thrown 0 0 hR
    refine lv_iload_n hx hb dX6_asks_13 rfl (lv_at hl 1 rfl) ?_
    obtain ⟨g3, hf⟩ := gd_of hf
    cases hf
    exact ret_z hC hR hS g3 dX6_asks_14
def fX6_tell (σ : St) (a1 : Int32) (a2 : Int32) : Option (Int32 × St) := bd (fX6_isProduct σ a1) (fun q1 => if q1 = 0 then bd (fX6_asks σ 0) (fun q3 => if ¬ q3.1 = 0 then gd (vin a1 3) (kst (gI q3.2 1 0 a1.toNatClampNeg) (fun x6 => some ((x6, pI q3.2 1 0 a1.toNatClampNeg a2)))) else some ((0, q3.2))) else bd (fX6_in σ a2 1 9999) (fun q7 => if q7 = 0 then bd (fX6_asks σ 0) (fun q9 => if ¬ q9.1 = 0 then gd (vin a1 3) (kst (gI q9.2 1 0 a1.toNatClampNeg) (fun x12 => some ((x12, pI q9.2 1 0 a1.toNatClampNeg a2)))) else some ((0, q9.2))) else bd (fX6_asks σ 1) (fun q13 => if ¬ q13.1 = 0 then gd (vin a1 3) (kst (gI q13.2 1 0 a1.toNatClampNeg) (fun x16 => some ((x16, pI q13.2 1 0 a1.toNatClampNeg a2)))) else some ((0, q13.2)))))
set_option maxHeartbeats 4000000 in
set_option maxRecDepth 100000 in
theorem mX6_tell (l : Launch) (D : va_G) (dA : Nat → ClassId) (ad : Nat → Nat → Nat) (σ : St) (sz : Nat) (a1 : Int32) (a2 : Int32) (r : Int32) (σ' : St) (hf : fX6_tell σ a1 a2 = some (r, σ')) : Met l yX6_tell (WSy yX6_tell cX6_tell 4 (some .int)) ({ frames := 1, cells := 0, slots := 0, locals := 22 } : Room) (va_Pc [.ref (ad 0 0), .int a1, .int a2] (fun U => U.heap.size = sz ∧ HM D dA (fun _ => True) ad σ U.heap ∧ KS D dA U)) (va_Qi (fun (x : Int32) (_ : Unit) => x = r) (fun _ t => HM D dA (WA ad (cvM σ) sz) ad σ' t.heap) (WA ad (cvM σ) sz)) 0 0 (WA ad (cvM σ) sz) := by
  refine met_of (by decide) (Nat.le_of_ble_eq_true rfl) ?_
  intro p e s m below meth c ls hC hB hl
  obtain ⟨rfl, hR, hK⟩ := hB
  have hA : ∀ q : Nat, s.heap.size ≤ q → WA ad (cvM σ) s.heap.size q := fun q h => Or.inr h
  have hR := WW_fit (B := WA ad (cvM σ) s.heap.size) hR (fun f i h => WA_in h)
  have hS : va_S (WA ad (cvM σ) s.heap.size) s.heap s.heap [] := va_S.rf
  generalize WA ad (cvM σ) s.heap.size = A0 at hA hR hS ⊢
  have hC : CTX p s m _ meth c cX6_tell 4 RX6 (some .int) := hC
  obtain ⟨hx, hb, hml, hown, hts, hr, hlk⟩ := id hC
  have hl : lv_has ls 4 [(0, .ref (ad 0 0)), (1, .int a1), (2, .int a2)] := hl
  unfold fX6_tell at hf
  refine lv_aload_n hx hb dX6_tell_0 rfl (lv_at hl 0 rfl) ?_
  refine lv_iload_n hx hb dX6_tell_1 rfl (lv_at hl 1 rfl) ?_
  obtain ⟨q1, hcq1, hf⟩ := bd_of hf
  refine kc_i (va_runS (As := [.int a1]) (rest := [.ref (ad 0 0)]) ⟨hx, hb, hml, hown, hts⟩ (mX6_isProduct l D dA ad σ _ a1 q1 hcq1) (va_cwS 1 hts gX6_70 rfl rfl rfl (by decide +kernel) ⟨Nat.le_of_ble_eq_true rfl, Nat.le_of_ble_eq_true rfl⟩) (preS_of hR hK _) rfl rfl hl.1 rfl (lv_room (Nat.le_of_ble_eq_true rfl)) dX6_tell_2 ⟨Nat.zero_le _, Nat.zero_le _⟩) hA hR hS (fun H locs hR hS => ?_)
  refine lv_if_eq (tgt := 23) hx hb dX6_tell_5 (by decide) (fun c2 => ?_) (fun c2 => ?_)
  · have hf := if_of_pos hf c2
    refine lv_iconst (v := 0) hx hb dX6_tell_23 (by decide) ?_
    obtain ⟨q3, hcq3, hf⟩ := bd_of hf
    refine kc_i (va_runV (As := [.int 0]) (rest := []) ⟨hx, hb, hml, hown, hts⟩ (mX6_asks l D dA ad σ _ 0 q3.1 q3.2 hcq3) (cwV 1 hts gX6_78 rfl rfl rfl (by decide +kernel) ⟨Nat.le_of_ble_eq_true rfl, Nat.le_of_ble_eq_true rfl⟩) (preV_of hR hK (f := 0) (i := 0) rfl rfl rfl _) rfl rfl hl.1 rfl (lv_room (Nat.le_of_ble_eq_true rfl)) dX6_tell_24 ⟨Nat.zero_le _, Nat.zero_le _⟩) hA hR hS (fun H locs hR hS => ?_)
    refine lv_if_ne (tgt := 32) hx hb dX6_tell_27 (by decide) (fun c4 => ?_) (fun c4 => ?_)
    · have hf := if_of_pos hf c4
      refine lv_aload_n hx hb dX6_tell_32 rfl (lv_at hl 0 rfl) ?_
      refine va_get (D := D) (ci := 7) (C := RX6) (T := TX6) (N := 22) hx hb hts iuX6 hown hK.1 (WW_one hR (f := 0) (i := 0) rfl) 0 rfl rfl 0 (by decide) (hts _ q_808) (fun _ h9 => h9) rfl dX6_tell_33 ?_
      refine lv_iload_n hx hb dX6_tell_36 rfl (lv_at hl 1 rfl) ?_
      obtain ⟨g5, hf⟩ := gd_of hf
      refine va_iald hx hb hK.1 (WW_one hR (f := 1) (i := 0) rfl) 0 0 rfl rfl g5 dX6_tell_37 ?_
      refine lv_topi (fun x6 hx6 => ?_)
      have hf := kst_eq hx6 hf
      refine lv_istore_n (lv' := [(3, .int x6), (0, .ref (ad 0 0)), (1, .int a1), (2, .int a2)]) hx hb dX6_tell_38 rfl hl (by decide) rfl (fun ls hl => ?_)
      refine lv_aload_n hx hb dX6_tell_39 rfl (lv_at hl 1 rfl) ?_
      refine va_get (D := D) (ci := 7) (C := RX6) (T := TX6) (N := 22) hx hb hts iuX6 hown hK.1 (WW_one hR (f := 0) (i := 0) rfl) 0 rfl rfl 0 (by decide) (hts _ q_808) (fun _ h9 => h9) rfl dX6_tell_40 ?_
      refine lv_iload_n hx hb dX6_tell_43 rfl (lv_at hl 2 rfl) ?_
      refine lv_iload_n hx hb dX6_tell_44 rfl (lv_at hl 3 rfl) ?_
      refine ww_iast hx hb hK.1 hR hS 0 (f := 1) (j := 0) rfl rfl rfl g5 dX6_tell_45 (fun H locs hR hS => ?_)
      have hR := HM_row1 0 (a1.toNatClampNeg) a2 hR
      refine lv_iload_n hx hb dX6_tell_46 rfl (lv_at hl 0 rfl) ?_
      cases hf
      exact ret_i hC hR hS dX6_tell_47
    · have hf := if_of_neg hf (fun q => q c4)
      refine lv_iconst (v := 0) hx hb dX6_tell_30 (by decide) ?_
      cases hf
      exact ret_i hC hR hS dX6_tell_31
  · have hf := if_of_neg hf c2
    refine lv_iload_n hx hb dX6_tell_8 rfl (lv_at hl 2 rfl) ?_
    refine lv_iconst (v := 1) hx hb dX6_tell_9 (by decide) ?_
    refine lv_sipush (v := 9999) hx hb dX6_tell_10 (by decide) ?_
    obtain ⟨q7, hcq7, hf⟩ := bd_of hf
    refine kc_i (va_runS (As := [.int a2, .int 1, .int 9999]) (rest := [.ref (ad 0 0)]) ⟨hx, hb, hml, hown, hts⟩ (mX6_in l D dA ad σ _ a2 1 9999 q7 hcq7) (va_cwS 3 hts gX6_74 rfl rfl rfl (by decide +kernel) ⟨Nat.le_of_ble_eq_true rfl, Nat.le_of_ble_eq_true rfl⟩) (preS_of hR hK _) rfl rfl hl.1 rfl (lv_room (Nat.le_of_ble_eq_true rfl)) dX6_tell_13 ⟨Nat.zero_le _, Nat.zero_le _⟩) hA hR hS (fun H locs hR hS => ?_)
    refine lv_if_eq (tgt := 23) hx hb dX6_tell_16 (by decide) (fun c8 => ?_) (fun c8 => ?_)
    · have hf := if_of_pos hf c8
      refine lv_iconst (v := 0) hx hb dX6_tell_23 (by decide) ?_
      obtain ⟨q9, hcq9, hf⟩ := bd_of hf
      refine kc_i (va_runV (As := [.int 0]) (rest := []) ⟨hx, hb, hml, hown, hts⟩ (mX6_asks l D dA ad σ _ 0 q9.1 q9.2 hcq9) (cwV 1 hts gX6_78 rfl rfl rfl (by decide +kernel) ⟨Nat.le_of_ble_eq_true rfl, Nat.le_of_ble_eq_true rfl⟩) (preV_of hR hK (f := 0) (i := 0) rfl rfl rfl _) rfl rfl hl.1 rfl (lv_room (Nat.le_of_ble_eq_true rfl)) dX6_tell_24 ⟨Nat.zero_le _, Nat.zero_le _⟩) hA hR hS (fun H locs hR hS => ?_)
      refine lv_if_ne (tgt := 32) hx hb dX6_tell_27 (by decide) (fun c10 => ?_) (fun c10 => ?_)
      · have hf := if_of_pos hf c10
        refine lv_aload_n hx hb dX6_tell_32 rfl (lv_at hl 0 rfl) ?_
        refine va_get (D := D) (ci := 7) (C := RX6) (T := TX6) (N := 22) hx hb hts iuX6 hown hK.1 (WW_one hR (f := 0) (i := 0) rfl) 0 rfl rfl 0 (by decide) (hts _ q_808) (fun _ h9 => h9) rfl dX6_tell_33 ?_
        refine lv_iload_n hx hb dX6_tell_36 rfl (lv_at hl 1 rfl) ?_
        obtain ⟨g11, hf⟩ := gd_of hf
        refine va_iald hx hb hK.1 (WW_one hR (f := 1) (i := 0) rfl) 0 0 rfl rfl g11 dX6_tell_37 ?_
        refine lv_topi (fun x12 hx12 => ?_)
        have hf := kst_eq hx12 hf
        refine lv_istore_n (lv' := [(3, .int x12), (0, .ref (ad 0 0)), (1, .int a1), (2, .int a2)]) hx hb dX6_tell_38 rfl hl (by decide) rfl (fun ls hl => ?_)
        refine lv_aload_n hx hb dX6_tell_39 rfl (lv_at hl 1 rfl) ?_
        refine va_get (D := D) (ci := 7) (C := RX6) (T := TX6) (N := 22) hx hb hts iuX6 hown hK.1 (WW_one hR (f := 0) (i := 0) rfl) 0 rfl rfl 0 (by decide) (hts _ q_808) (fun _ h9 => h9) rfl dX6_tell_40 ?_
        refine lv_iload_n hx hb dX6_tell_43 rfl (lv_at hl 2 rfl) ?_
        refine lv_iload_n hx hb dX6_tell_44 rfl (lv_at hl 3 rfl) ?_
        refine ww_iast hx hb hK.1 hR hS 0 (f := 1) (j := 0) rfl rfl rfl g11 dX6_tell_45 (fun H locs hR hS => ?_)
        have hR := HM_row1 0 (a1.toNatClampNeg) a2 hR
        refine lv_iload_n hx hb dX6_tell_46 rfl (lv_at hl 0 rfl) ?_
        cases hf
        exact ret_i hC hR hS dX6_tell_47
      · have hf := if_of_neg hf (fun q => q c10)
        refine lv_iconst (v := 0) hx hb dX6_tell_30 (by decide) ?_
        cases hf
        exact ret_i hC hR hS dX6_tell_31
    · have hf := if_of_neg hf c8
      refine lv_iconst (v := 1) hx hb dX6_tell_19 (by decide) ?_
      refine lv_goto (tgt := 24) hx hb dX6_tell_20 (by decide) ?_
      obtain ⟨q13, hcq13, hf⟩ := bd_of hf
      refine kc_i (va_runV (As := [.int 1]) (rest := []) ⟨hx, hb, hml, hown, hts⟩ (mX6_asks l D dA ad σ _ 1 q13.1 q13.2 hcq13) (cwV 1 hts gX6_78 rfl rfl rfl (by decide +kernel) ⟨Nat.le_of_ble_eq_true rfl, Nat.le_of_ble_eq_true rfl⟩) (preV_of hR hK (f := 0) (i := 0) rfl rfl rfl _) rfl rfl hl.1 rfl (lv_room (Nat.le_of_ble_eq_true rfl)) dX6_tell_24 ⟨Nat.zero_le _, Nat.zero_le _⟩) hA hR hS (fun H locs hR hS => ?_)
      refine lv_if_ne (tgt := 32) hx hb dX6_tell_27 (by decide) (fun c14 => ?_) (fun c14 => ?_)
      · have hf := if_of_pos hf c14
        refine lv_aload_n hx hb dX6_tell_32 rfl (lv_at hl 0 rfl) ?_
        refine va_get (D := D) (ci := 7) (C := RX6) (T := TX6) (N := 22) hx hb hts iuX6 hown hK.1 (WW_one hR (f := 0) (i := 0) rfl) 0 rfl rfl 0 (by decide) (hts _ q_808) (fun _ h9 => h9) rfl dX6_tell_33 ?_
        refine lv_iload_n hx hb dX6_tell_36 rfl (lv_at hl 1 rfl) ?_
        obtain ⟨g15, hf⟩ := gd_of hf
        refine va_iald hx hb hK.1 (WW_one hR (f := 1) (i := 0) rfl) 0 0 rfl rfl g15 dX6_tell_37 ?_
        refine lv_topi (fun x16 hx16 => ?_)
        have hf := kst_eq hx16 hf
        refine lv_istore_n (lv' := [(3, .int x16), (0, .ref (ad 0 0)), (1, .int a1), (2, .int a2)]) hx hb dX6_tell_38 rfl hl (by decide) rfl (fun ls hl => ?_)
        refine lv_aload_n hx hb dX6_tell_39 rfl (lv_at hl 1 rfl) ?_
        refine va_get (D := D) (ci := 7) (C := RX6) (T := TX6) (N := 22) hx hb hts iuX6 hown hK.1 (WW_one hR (f := 0) (i := 0) rfl) 0 rfl rfl 0 (by decide) (hts _ q_808) (fun _ h9 => h9) rfl dX6_tell_40 ?_
        refine lv_iload_n hx hb dX6_tell_43 rfl (lv_at hl 2 rfl) ?_
        refine lv_iload_n hx hb dX6_tell_44 rfl (lv_at hl 3 rfl) ?_
        refine ww_iast hx hb hK.1 hR hS 0 (f := 1) (j := 0) rfl rfl rfl g15 dX6_tell_45 (fun H locs hR hS => ?_)
        have hR := HM_row1 0 (a1.toNatClampNeg) a2 hR
        refine lv_iload_n hx hb dX6_tell_46 rfl (lv_at hl 0 rfl) ?_
        cases hf
        exact ret_i hC hR hS dX6_tell_47
      · have hf := if_of_neg hf (fun q => q c14)
        refine lv_iconst (v := 0) hx hb dX6_tell_30 (by decide) ?_
        cases hf
        exact ret_i hC hR hS dX6_tell_31
def fX6_setMove (σ : St) (a1 : Int32) (a2 : Int32) (a3 : Int32) : Option (Int32 × St) := bd (fX6_in σ a1 0 3) (fun q1 => if q1 = 0 then bd (fX6_asks σ 0) (fun q3 => if ¬ q3.1 = 0 then gd (vin ((3 * a1) + a2) 12) (kst (gI q3.2 2 0 ((3 * a1) + a2).toNatClampNeg) (fun x6 => some ((x6, pI q3.2 2 0 ((3 * a1) + a2).toNatClampNeg a3)))) else some ((0, q3.2))) else bd (fX6_isProduct σ a2) (fun q7 => if q7 = 0 then bd (fX6_asks σ 0) (fun q9 => if ¬ q9.1 = 0 then gd (vin ((3 * a1) + a2) 12) (kst (gI q9.2 2 0 ((3 * a1) + a2).toNatClampNeg) (fun x12 => some ((x12, pI q9.2 2 0 ((3 * a1) + a2).toNatClampNeg a3)))) else some ((0, q9.2))) else bd (fX6_in σ a3 (-500) 500) (fun q13 => if q13 = 0 then bd (fX6_asks σ 0) (fun q15 => if ¬ q15.1 = 0 then gd (vin ((3 * a1) + a2) 12) (kst (gI q15.2 2 0 ((3 * a1) + a2).toNatClampNeg) (fun x18 => some ((x18, pI q15.2 2 0 ((3 * a1) + a2).toNatClampNeg a3)))) else some ((0, q15.2))) else bd (fX6_asks σ 1) (fun q19 => if ¬ q19.1 = 0 then gd (vin ((3 * a1) + a2) 12) (kst (gI q19.2 2 0 ((3 * a1) + a2).toNatClampNeg) (fun x22 => some ((x22, pI q19.2 2 0 ((3 * a1) + a2).toNatClampNeg a3)))) else some ((0, q19.2))))))
set_option maxHeartbeats 4000000 in
set_option maxRecDepth 100000 in
theorem mX6_setMove (l : Launch) (D : va_G) (dA : Nat → ClassId) (ad : Nat → Nat → Nat) (σ : St) (sz : Nat) (a1 : Int32) (a2 : Int32) (a3 : Int32) (r : Int32) (σ' : St) (hf : fX6_setMove σ a1 a2 a3 = some (r, σ')) : Met l yX6_setMove (WSy yX6_setMove cX6_setMove 5 (some .int)) ({ frames := 1, cells := 0, slots := 0, locals := 22 } : Room) (va_Pc [.ref (ad 0 0), .int a1, .int a2, .int a3] (fun U => U.heap.size = sz ∧ HM D dA (fun _ => True) ad σ U.heap ∧ KS D dA U)) (va_Qi (fun (x : Int32) (_ : Unit) => x = r) (fun _ t => HM D dA (WA ad (cvM σ) sz) ad σ' t.heap) (WA ad (cvM σ) sz)) 0 0 (WA ad (cvM σ) sz) := by
  refine met_of (by decide) (Nat.le_of_ble_eq_true rfl) ?_
  intro p e s m below meth c ls hC hB hl
  obtain ⟨rfl, hR, hK⟩ := hB
  have hA : ∀ q : Nat, s.heap.size ≤ q → WA ad (cvM σ) s.heap.size q := fun q h => Or.inr h
  have hR := WW_fit (B := WA ad (cvM σ) s.heap.size) hR (fun f i h => WA_in h)
  have hS : va_S (WA ad (cvM σ) s.heap.size) s.heap s.heap [] := va_S.rf
  generalize WA ad (cvM σ) s.heap.size = A0 at hA hR hS ⊢
  have hC : CTX p s m _ meth c cX6_setMove 5 RX6 (some .int) := hC
  obtain ⟨hx, hb, hml, hown, hts, hr, hlk⟩ := id hC
  have hl : lv_has ls 5 [(0, .ref (ad 0 0)), (1, .int a1), (2, .int a2), (3, .int a3)] := hl
  unfold fX6_setMove at hf
  refine lv_aload_n hx hb dX6_setMove_0 rfl (lv_at hl 0 rfl) ?_
  refine lv_iload_n hx hb dX6_setMove_1 rfl (lv_at hl 1 rfl) ?_
  refine lv_iconst (v := 0) hx hb dX6_setMove_2 (by decide) ?_
  refine lv_iconst (v := 3) hx hb dX6_setMove_3 (by decide) ?_
  obtain ⟨q1, hcq1, hf⟩ := bd_of hf
  refine kc_i (va_runS (As := [.int a1, .int 0, .int 3]) (rest := [.ref (ad 0 0)]) ⟨hx, hb, hml, hown, hts⟩ (mX6_in l D dA ad σ _ a1 0 3 q1 hcq1) (va_cwS 3 hts gX6_74 rfl rfl rfl (by decide +kernel) ⟨Nat.le_of_ble_eq_true rfl, Nat.le_of_ble_eq_true rfl⟩) (preS_of hR hK _) rfl rfl hl.1 rfl (lv_room (Nat.le_of_ble_eq_true rfl)) dX6_setMove_4 ⟨Nat.zero_le _, Nat.zero_le _⟩) hA hR hS (fun H locs hR hS => ?_)
  refine lv_if_eq (tgt := 34) hx hb dX6_setMove_7 (by decide) (fun c2 => ?_) (fun c2 => ?_)
  · have hf := if_of_pos hf c2
    refine lv_iconst (v := 0) hx hb dX6_setMove_34 (by decide) ?_
    obtain ⟨q3, hcq3, hf⟩ := bd_of hf
    refine kc_i (va_runV (As := [.int 0]) (rest := []) ⟨hx, hb, hml, hown, hts⟩ (mX6_asks l D dA ad σ _ 0 q3.1 q3.2 hcq3) (cwV 1 hts gX6_78 rfl rfl rfl (by decide +kernel) ⟨Nat.le_of_ble_eq_true rfl, Nat.le_of_ble_eq_true rfl⟩) (preV_of hR hK (f := 0) (i := 0) rfl rfl rfl _) rfl rfl hl.1 rfl (lv_room (Nat.le_of_ble_eq_true rfl)) dX6_setMove_35 ⟨Nat.zero_le _, Nat.zero_le _⟩) hA hR hS (fun H locs hR hS => ?_)
    refine lv_if_ne (tgt := 43) hx hb dX6_setMove_38 (by decide) (fun c4 => ?_) (fun c4 => ?_)
    · have hf := if_of_pos hf c4
      refine lv_aload_n hx hb dX6_setMove_43 rfl (lv_at hl 0 rfl) ?_
      refine va_get (D := D) (ci := 7) (C := RX6) (T := TX6) (N := 22) hx hb hts iuX6 hown hK.1 (WW_one hR (f := 0) (i := 0) rfl) 0 rfl rfl 1 (by decide) (hts _ q_809) (fun _ h9 => h9) rfl dX6_setMove_44 ?_
      refine lv_iconst (v := 3) hx hb dX6_setMove_47 (by decide) ?_
      refine lv_iload_n hx hb dX6_setMove_48 rfl (lv_at hl 1 rfl) ?_
      refine lv_imul hx hb dX6_setMove_49 ?_
      refine lv_iload_n hx hb dX6_setMove_50 rfl (lv_at hl 2 rfl) ?_
      refine lv_iadd hx hb dX6_setMove_51 ?_
      obtain ⟨g5, hf⟩ := gd_of hf
      refine va_iald hx hb hK.1 (WW_one hR (f := 2) (i := 0) rfl) 0 0 rfl rfl g5 dX6_setMove_52 ?_
      refine lv_topi (fun x6 hx6 => ?_)
      have hf := kst_eq hx6 hf
      refine lv_istore (lv' := [(4, .int x6), (0, .ref (ad 0 0)), (1, .int a1), (2, .int a2), (3, .int a3)]) hx hb dX6_setMove_53 hl (by decide) rfl (fun ls hl => ?_)
      refine lv_aload_n hx hb dX6_setMove_55 rfl (lv_at hl 1 rfl) ?_
      refine va_get (D := D) (ci := 7) (C := RX6) (T := TX6) (N := 22) hx hb hts iuX6 hown hK.1 (WW_one hR (f := 0) (i := 0) rfl) 0 rfl rfl 1 (by decide) (hts _ q_809) (fun _ h9 => h9) rfl dX6_setMove_56 ?_
      refine lv_iconst (v := 3) hx hb dX6_setMove_59 (by decide) ?_
      refine lv_iload_n hx hb dX6_setMove_60 rfl (lv_at hl 2 rfl) ?_
      refine lv_imul hx hb dX6_setMove_61 ?_
      refine lv_iload_n hx hb dX6_setMove_62 rfl (lv_at hl 3 rfl) ?_
      refine lv_iadd hx hb dX6_setMove_63 ?_
      refine lv_iload_n hx hb dX6_setMove_64 rfl (lv_at hl 4 rfl) ?_
      refine ww_iast hx hb hK.1 hR hS 0 (f := 2) (j := 0) rfl rfl rfl g5 dX6_setMove_65 (fun H locs hR hS => ?_)
      have hR := HM_row2 0 (((3 * a1) + a2).toNatClampNeg) a3 hR
      refine lv_iload hx hb dX6_setMove_66 (lv_at hl 0 rfl) ?_
      cases hf
      exact ret_i hC hR hS dX6_setMove_68
    · have hf := if_of_neg hf (fun q => q c4)
      refine lv_iconst (v := 0) hx hb dX6_setMove_41 (by decide) ?_
      cases hf
      exact ret_i hC hR hS dX6_setMove_42
  · have hf := if_of_neg hf c2
    refine lv_iload_n hx hb dX6_setMove_10 rfl (lv_at hl 2 rfl) ?_
    obtain ⟨q7, hcq7, hf⟩ := bd_of hf
    refine kc_i (va_runS (As := [.int a2]) (rest := [.ref (ad 0 0)]) ⟨hx, hb, hml, hown, hts⟩ (mX6_isProduct l D dA ad σ _ a2 q7 hcq7) (va_cwS 1 hts gX6_70 rfl rfl rfl (by decide +kernel) ⟨Nat.le_of_ble_eq_true rfl, Nat.le_of_ble_eq_true rfl⟩) (preS_of hR hK _) rfl rfl hl.1 rfl (lv_room (Nat.le_of_ble_eq_true rfl)) dX6_setMove_11 ⟨Nat.zero_le _, Nat.zero_le _⟩) hA hR hS (fun H locs hR hS => ?_)
    refine lv_if_eq (tgt := 34) hx hb dX6_setMove_14 (by decide) (fun c8 => ?_) (fun c8 => ?_)
    · have hf := if_of_pos hf c8
      refine lv_iconst (v := 0) hx hb dX6_setMove_34 (by decide) ?_
      obtain ⟨q9, hcq9, hf⟩ := bd_of hf
      refine kc_i (va_runV (As := [.int 0]) (rest := []) ⟨hx, hb, hml, hown, hts⟩ (mX6_asks l D dA ad σ _ 0 q9.1 q9.2 hcq9) (cwV 1 hts gX6_78 rfl rfl rfl (by decide +kernel) ⟨Nat.le_of_ble_eq_true rfl, Nat.le_of_ble_eq_true rfl⟩) (preV_of hR hK (f := 0) (i := 0) rfl rfl rfl _) rfl rfl hl.1 rfl (lv_room (Nat.le_of_ble_eq_true rfl)) dX6_setMove_35 ⟨Nat.zero_le _, Nat.zero_le _⟩) hA hR hS (fun H locs hR hS => ?_)
      refine lv_if_ne (tgt := 43) hx hb dX6_setMove_38 (by decide) (fun c10 => ?_) (fun c10 => ?_)
      · have hf := if_of_pos hf c10
        refine lv_aload_n hx hb dX6_setMove_43 rfl (lv_at hl 0 rfl) ?_
        refine va_get (D := D) (ci := 7) (C := RX6) (T := TX6) (N := 22) hx hb hts iuX6 hown hK.1 (WW_one hR (f := 0) (i := 0) rfl) 0 rfl rfl 1 (by decide) (hts _ q_809) (fun _ h9 => h9) rfl dX6_setMove_44 ?_
        refine lv_iconst (v := 3) hx hb dX6_setMove_47 (by decide) ?_
        refine lv_iload_n hx hb dX6_setMove_48 rfl (lv_at hl 1 rfl) ?_
        refine lv_imul hx hb dX6_setMove_49 ?_
        refine lv_iload_n hx hb dX6_setMove_50 rfl (lv_at hl 2 rfl) ?_
        refine lv_iadd hx hb dX6_setMove_51 ?_
        obtain ⟨g11, hf⟩ := gd_of hf
        refine va_iald hx hb hK.1 (WW_one hR (f := 2) (i := 0) rfl) 0 0 rfl rfl g11 dX6_setMove_52 ?_
        refine lv_topi (fun x12 hx12 => ?_)
        have hf := kst_eq hx12 hf
        refine lv_istore (lv' := [(4, .int x12), (0, .ref (ad 0 0)), (1, .int a1), (2, .int a2), (3, .int a3)]) hx hb dX6_setMove_53 hl (by decide) rfl (fun ls hl => ?_)
        refine lv_aload_n hx hb dX6_setMove_55 rfl (lv_at hl 1 rfl) ?_
        refine va_get (D := D) (ci := 7) (C := RX6) (T := TX6) (N := 22) hx hb hts iuX6 hown hK.1 (WW_one hR (f := 0) (i := 0) rfl) 0 rfl rfl 1 (by decide) (hts _ q_809) (fun _ h9 => h9) rfl dX6_setMove_56 ?_
        refine lv_iconst (v := 3) hx hb dX6_setMove_59 (by decide) ?_
        refine lv_iload_n hx hb dX6_setMove_60 rfl (lv_at hl 2 rfl) ?_
        refine lv_imul hx hb dX6_setMove_61 ?_
        refine lv_iload_n hx hb dX6_setMove_62 rfl (lv_at hl 3 rfl) ?_
        refine lv_iadd hx hb dX6_setMove_63 ?_
        refine lv_iload_n hx hb dX6_setMove_64 rfl (lv_at hl 4 rfl) ?_
        refine ww_iast hx hb hK.1 hR hS 0 (f := 2) (j := 0) rfl rfl rfl g11 dX6_setMove_65 (fun H locs hR hS => ?_)
        have hR := HM_row2 0 (((3 * a1) + a2).toNatClampNeg) a3 hR
        refine lv_iload hx hb dX6_setMove_66 (lv_at hl 0 rfl) ?_
        cases hf
        exact ret_i hC hR hS dX6_setMove_68
      · have hf := if_of_neg hf (fun q => q c10)
        refine lv_iconst (v := 0) hx hb dX6_setMove_41 (by decide) ?_
        cases hf
        exact ret_i hC hR hS dX6_setMove_42
    · have hf := if_of_neg hf c8
      refine lv_iload_n hx hb dX6_setMove_17 rfl (lv_at hl 3 rfl) ?_
      refine lv_sipush (v := (-500)) hx hb dX6_setMove_18 (by decide) ?_
      refine lv_sipush (v := 500) hx hb dX6_setMove_21 (by decide) ?_
      obtain ⟨q13, hcq13, hf⟩ := bd_of hf
      refine kc_i (va_runS (As := [.int a3, .int (-500), .int 500]) (rest := [.ref (ad 0 0)]) ⟨hx, hb, hml, hown, hts⟩ (mX6_in l D dA ad σ _ a3 (-500) 500 q13 hcq13) (va_cwS 3 hts gX6_74 rfl rfl rfl (by decide +kernel) ⟨Nat.le_of_ble_eq_true rfl, Nat.le_of_ble_eq_true rfl⟩) (preS_of hR hK _) rfl rfl hl.1 rfl (lv_room (Nat.le_of_ble_eq_true rfl)) dX6_setMove_24 ⟨Nat.zero_le _, Nat.zero_le _⟩) hA hR hS (fun H locs hR hS => ?_)
      refine lv_if_eq (tgt := 34) hx hb dX6_setMove_27 (by decide) (fun c14 => ?_) (fun c14 => ?_)
      · have hf := if_of_pos hf c14
        refine lv_iconst (v := 0) hx hb dX6_setMove_34 (by decide) ?_
        obtain ⟨q15, hcq15, hf⟩ := bd_of hf
        refine kc_i (va_runV (As := [.int 0]) (rest := []) ⟨hx, hb, hml, hown, hts⟩ (mX6_asks l D dA ad σ _ 0 q15.1 q15.2 hcq15) (cwV 1 hts gX6_78 rfl rfl rfl (by decide +kernel) ⟨Nat.le_of_ble_eq_true rfl, Nat.le_of_ble_eq_true rfl⟩) (preV_of hR hK (f := 0) (i := 0) rfl rfl rfl _) rfl rfl hl.1 rfl (lv_room (Nat.le_of_ble_eq_true rfl)) dX6_setMove_35 ⟨Nat.zero_le _, Nat.zero_le _⟩) hA hR hS (fun H locs hR hS => ?_)
        refine lv_if_ne (tgt := 43) hx hb dX6_setMove_38 (by decide) (fun c16 => ?_) (fun c16 => ?_)
        · have hf := if_of_pos hf c16
          refine lv_aload_n hx hb dX6_setMove_43 rfl (lv_at hl 0 rfl) ?_
          refine va_get (D := D) (ci := 7) (C := RX6) (T := TX6) (N := 22) hx hb hts iuX6 hown hK.1 (WW_one hR (f := 0) (i := 0) rfl) 0 rfl rfl 1 (by decide) (hts _ q_809) (fun _ h9 => h9) rfl dX6_setMove_44 ?_
          refine lv_iconst (v := 3) hx hb dX6_setMove_47 (by decide) ?_
          refine lv_iload_n hx hb dX6_setMove_48 rfl (lv_at hl 1 rfl) ?_
          refine lv_imul hx hb dX6_setMove_49 ?_
          refine lv_iload_n hx hb dX6_setMove_50 rfl (lv_at hl 2 rfl) ?_
          refine lv_iadd hx hb dX6_setMove_51 ?_
          obtain ⟨g17, hf⟩ := gd_of hf
          refine va_iald hx hb hK.1 (WW_one hR (f := 2) (i := 0) rfl) 0 0 rfl rfl g17 dX6_setMove_52 ?_
          refine lv_topi (fun x18 hx18 => ?_)
          have hf := kst_eq hx18 hf
          refine lv_istore (lv' := [(4, .int x18), (0, .ref (ad 0 0)), (1, .int a1), (2, .int a2), (3, .int a3)]) hx hb dX6_setMove_53 hl (by decide) rfl (fun ls hl => ?_)
          refine lv_aload_n hx hb dX6_setMove_55 rfl (lv_at hl 1 rfl) ?_
          refine va_get (D := D) (ci := 7) (C := RX6) (T := TX6) (N := 22) hx hb hts iuX6 hown hK.1 (WW_one hR (f := 0) (i := 0) rfl) 0 rfl rfl 1 (by decide) (hts _ q_809) (fun _ h9 => h9) rfl dX6_setMove_56 ?_
          refine lv_iconst (v := 3) hx hb dX6_setMove_59 (by decide) ?_
          refine lv_iload_n hx hb dX6_setMove_60 rfl (lv_at hl 2 rfl) ?_
          refine lv_imul hx hb dX6_setMove_61 ?_
          refine lv_iload_n hx hb dX6_setMove_62 rfl (lv_at hl 3 rfl) ?_
          refine lv_iadd hx hb dX6_setMove_63 ?_
          refine lv_iload_n hx hb dX6_setMove_64 rfl (lv_at hl 4 rfl) ?_
          refine ww_iast hx hb hK.1 hR hS 0 (f := 2) (j := 0) rfl rfl rfl g17 dX6_setMove_65 (fun H locs hR hS => ?_)
          have hR := HM_row2 0 (((3 * a1) + a2).toNatClampNeg) a3 hR
          refine lv_iload hx hb dX6_setMove_66 (lv_at hl 0 rfl) ?_
          cases hf
          exact ret_i hC hR hS dX6_setMove_68
        · have hf := if_of_neg hf (fun q => q c16)
          refine lv_iconst (v := 0) hx hb dX6_setMove_41 (by decide) ?_
          cases hf
          exact ret_i hC hR hS dX6_setMove_42
      · have hf := if_of_neg hf c14
        refine lv_iconst (v := 1) hx hb dX6_setMove_30 (by decide) ?_
        refine lv_goto (tgt := 35) hx hb dX6_setMove_31 (by decide) ?_
        obtain ⟨q19, hcq19, hf⟩ := bd_of hf
        refine kc_i (va_runV (As := [.int 1]) (rest := []) ⟨hx, hb, hml, hown, hts⟩ (mX6_asks l D dA ad σ _ 1 q19.1 q19.2 hcq19) (cwV 1 hts gX6_78 rfl rfl rfl (by decide +kernel) ⟨Nat.le_of_ble_eq_true rfl, Nat.le_of_ble_eq_true rfl⟩) (preV_of hR hK (f := 0) (i := 0) rfl rfl rfl _) rfl rfl hl.1 rfl (lv_room (Nat.le_of_ble_eq_true rfl)) dX6_setMove_35 ⟨Nat.zero_le _, Nat.zero_le _⟩) hA hR hS (fun H locs hR hS => ?_)
        refine lv_if_ne (tgt := 43) hx hb dX6_setMove_38 (by decide) (fun c20 => ?_) (fun c20 => ?_)
        · have hf := if_of_pos hf c20
          refine lv_aload_n hx hb dX6_setMove_43 rfl (lv_at hl 0 rfl) ?_
          refine va_get (D := D) (ci := 7) (C := RX6) (T := TX6) (N := 22) hx hb hts iuX6 hown hK.1 (WW_one hR (f := 0) (i := 0) rfl) 0 rfl rfl 1 (by decide) (hts _ q_809) (fun _ h9 => h9) rfl dX6_setMove_44 ?_
          refine lv_iconst (v := 3) hx hb dX6_setMove_47 (by decide) ?_
          refine lv_iload_n hx hb dX6_setMove_48 rfl (lv_at hl 1 rfl) ?_
          refine lv_imul hx hb dX6_setMove_49 ?_
          refine lv_iload_n hx hb dX6_setMove_50 rfl (lv_at hl 2 rfl) ?_
          refine lv_iadd hx hb dX6_setMove_51 ?_
          obtain ⟨g21, hf⟩ := gd_of hf
          refine va_iald hx hb hK.1 (WW_one hR (f := 2) (i := 0) rfl) 0 0 rfl rfl g21 dX6_setMove_52 ?_
          refine lv_topi (fun x22 hx22 => ?_)
          have hf := kst_eq hx22 hf
          refine lv_istore (lv' := [(4, .int x22), (0, .ref (ad 0 0)), (1, .int a1), (2, .int a2), (3, .int a3)]) hx hb dX6_setMove_53 hl (by decide) rfl (fun ls hl => ?_)
          refine lv_aload_n hx hb dX6_setMove_55 rfl (lv_at hl 1 rfl) ?_
          refine va_get (D := D) (ci := 7) (C := RX6) (T := TX6) (N := 22) hx hb hts iuX6 hown hK.1 (WW_one hR (f := 0) (i := 0) rfl) 0 rfl rfl 1 (by decide) (hts _ q_809) (fun _ h9 => h9) rfl dX6_setMove_56 ?_
          refine lv_iconst (v := 3) hx hb dX6_setMove_59 (by decide) ?_
          refine lv_iload_n hx hb dX6_setMove_60 rfl (lv_at hl 2 rfl) ?_
          refine lv_imul hx hb dX6_setMove_61 ?_
          refine lv_iload_n hx hb dX6_setMove_62 rfl (lv_at hl 3 rfl) ?_
          refine lv_iadd hx hb dX6_setMove_63 ?_
          refine lv_iload_n hx hb dX6_setMove_64 rfl (lv_at hl 4 rfl) ?_
          refine ww_iast hx hb hK.1 hR hS 0 (f := 2) (j := 0) rfl rfl rfl g21 dX6_setMove_65 (fun H locs hR hS => ?_)
          have hR := HM_row2 0 (((3 * a1) + a2).toNatClampNeg) a3 hR
          refine lv_iload hx hb dX6_setMove_66 (lv_at hl 0 rfl) ?_
          cases hf
          exact ret_i hC hR hS dX6_setMove_68
        · have hf := if_of_neg hf (fun q => q c20)
          refine lv_iconst (v := 0) hx hb dX6_setMove_41 (by decide) ?_
          cases hf
          exact ret_i hC hR hS dX6_setMove_42
def fX6_tellKind_L36 : Nat → St → Int32 → Int32 → Int32 → Option (Int32 × St)
  | 0, _, _, _, _ => none
  | n + 1, σ, v3, v1, v2 => if v3 ≤ 0 then gd (vin (4 * v1) 8) (bd (fX6_haircutOf (pI σ 3 0 (4 * v1).toNatClampNeg v2) v1) (fun q7 => some ((q7, pI σ 3 0 (4 * v1).toNatClampNeg v2)))) else gd (vin (((4 * v1) + v3) - 1) 8) (gd (vin ((4 * v1) + v3) 8) (kst (v3 + (-1)) (fun x10 => fX6_tellKind_L36 n (pI σ 3 0 ((4 * v1) + v3).toNatClampNeg (gI σ 3 0 (((4 * v1) + v3) - 1).toNatClampNeg)) x10 v1 v2)))
set_option maxHeartbeats 4000000 in
set_option maxRecDepth 100000 in
theorem wX6_tellKind_L36 {p : Program} {l : Launch} {e : Env} {s : State} {m : MethodId} {args : Array Value} {below : List Frame} {meth : Method} {c : Code} {D : va_G} {dA : Nat → ClassId} {A0 : Nat → Prop} {ad : Nat → Nat → Nat} {r : Int32} {σ' : St}  (hC : CTX p s m args meth c cX6_tellKind 4 RX6 (some .int)) (hK : KS D dA s) (hA : ∀ q, s.heap.size ≤ q → A0 q) : ∀ (n : Nat) (H : Heap) (locs : List Loc) (ls : Array Slot) (σ : St) (v3 : Int32) (v1 : Int32) (v2 : Int32), HM D dA A0 ad σ H → va_S A0 s.heap H locs → lv_has ls 4 [(3, .int v3), (0, .ref (ad 0 0)), (1, .int v1), (2, .int v2)] → fX6_tellKind_L36 n σ v3 v1 v2 = some (r, σ') → W p l e ({ frames := 1, cells := 0, slots := 0, locals := 25 } : Room) s m args below meth c H locs 0 0 (MQ below (va_Qi (fun (x : Int32) (_ : Unit) => x = r) (fun _ t => HM D dA A0 ad σ' t.heap) A0) args s 0 0 A0) (F0 m 36 ls []) := by
  obtain ⟨hx, hb, hml, hown, hts, hr, hlk⟩ := id hC
  intro n
  induction n with
  | zero =>
    intro H locs ls σ v3 v1 v2 hR hS hl hf
    rw [fX6_tellKind_L36.eq_1] at hf
    cases hf
  | succ n ih =>
    intro H locs ls σ v3 v1 v2 hR hS hl hf
    rw [fX6_tellKind_L36.eq_2] at hf
    refine lv_iload_n hx hb dX6_tellKind_36 rfl (lv_at hl 0 rfl) ?_
    refine lv_if_le (tgt := 68) hx hb dX6_tellKind_37 (by decide) (fun c5 => ?_) (fun c5 => ?_)
    · have hf := if_of_pos hf c5
      refine lv_aload_n hx hb dX6_tellKind_68 rfl (lv_at hl 1 rfl) ?_
      refine va_get (D := D) (ci := 7) (C := RX6) (T := TX6) (N := 22) hx hb hts iuX6 hown hK.1 (WW_one hR (f := 0) (i := 0) rfl) 0 rfl rfl 2 (by decide) (hts _ q_810) (fun _ h9 => h9) rfl dX6_tellKind_69 ?_
      refine lv_iconst (v := 4) hx hb dX6_tellKind_72 (by decide) ?_
      refine lv_iload_n hx hb dX6_tellKind_73 rfl (lv_at hl 2 rfl) ?_
      refine lv_imul hx hb dX6_tellKind_74 ?_
      refine lv_iload_n hx hb dX6_tellKind_75 rfl (lv_at hl 3 rfl) ?_
      obtain ⟨g6, hf⟩ := gd_of hf
      refine ww_iast hx hb hK.1 hR hS 0 (f := 3) (j := 0) rfl rfl rfl g6 dX6_tellKind_76 (fun H locs hR hS => ?_)
      have hR := HM_row3 0 ((4 * v1).toNatClampNeg) v2 hR
      refine lv_aload_n hx hb dX6_tellKind_77 rfl (lv_at hl 1 rfl) ?_
      refine lv_iload_n hx hb dX6_tellKind_78 rfl (lv_at hl 2 rfl) ?_
      obtain ⟨q7, hcq7, hf⟩ := bd_of hf
      refine kc_i (va_runV (As := [.int v1]) (rest := []) ⟨hx, hb, hml, hown, hts⟩ (mX6_haircutOf l D dA ad (pI σ 3 0 (4 * v1).toNatClampNeg v2) _ v1 q7 hcq7) (cwV 1 hts gX6_82 rfl rfl rfl (by decide +kernel) ⟨Nat.le_of_ble_eq_true rfl, Nat.le_of_ble_eq_true rfl⟩) (preV_of hR hK (f := 0) (i := 0) rfl rfl rfl _) rfl rfl hl.1 rfl (lv_room (Nat.le_of_ble_eq_true rfl)) dX6_tellKind_79 ⟨Nat.zero_le _, Nat.zero_le _⟩) hA hR hS (fun H locs hR hS => ?_)
      cases hf
      exact ret_i hC hR hS dX6_tellKind_82
    · have hf := if_of_neg hf c5
      refine lv_aload_n hx hb dX6_tellKind_40 rfl (lv_at hl 1 rfl) ?_
      refine va_get (D := D) (ci := 7) (C := RX6) (T := TX6) (N := 22) hx hb hts iuX6 hown hK.1 (WW_one hR (f := 0) (i := 0) rfl) 0 rfl rfl 2 (by decide) (hts _ q_810) (fun _ h9 => h9) rfl dX6_tellKind_41 ?_
      refine lv_iconst (v := 4) hx hb dX6_tellKind_44 (by decide) ?_
      refine lv_iload_n hx hb dX6_tellKind_45 rfl (lv_at hl 2 rfl) ?_
      refine lv_imul hx hb dX6_tellKind_46 ?_
      refine lv_iload_n hx hb dX6_tellKind_47 rfl (lv_at hl 0 rfl) ?_
      refine lv_iadd hx hb dX6_tellKind_48 ?_
      refine lv_aload_n hx hb dX6_tellKind_49 rfl (lv_at hl 1 rfl) ?_
      refine va_get (D := D) (ci := 7) (C := RX6) (T := TX6) (N := 22) hx hb hts iuX6 hown hK.1 (WW_one hR (f := 0) (i := 0) rfl) 0 rfl rfl 2 (by decide) (hts _ q_810) (fun _ h9 => h9) rfl dX6_tellKind_50 ?_
      refine lv_iconst (v := 4) hx hb dX6_tellKind_53 (by decide) ?_
      refine lv_iload_n hx hb dX6_tellKind_54 rfl (lv_at hl 2 rfl) ?_
      refine lv_imul hx hb dX6_tellKind_55 ?_
      refine lv_iload_n hx hb dX6_tellKind_56 rfl (lv_at hl 0 rfl) ?_
      refine lv_iadd hx hb dX6_tellKind_57 ?_
      refine lv_iconst (v := 1) hx hb dX6_tellKind_58 (by decide) ?_
      refine lv_isub hx hb dX6_tellKind_59 ?_
      obtain ⟨g8, hf⟩ := gd_of hf
      refine va_iald hx hb hK.1 (WW_one hR (f := 3) (i := 0) rfl) 0 0 rfl rfl g8 dX6_tellKind_60 ?_
      obtain ⟨g9, hf⟩ := gd_of hf
      refine ww_iast hx hb hK.1 hR hS 0 (f := 3) (j := 0) rfl rfl rfl g9 dX6_tellKind_61 (fun H locs hR hS => ?_)
      have hR := HM_row3 0 (((4 * v1) + v3).toNatClampNeg) (gI σ 3 0 (((4 * v1) + v3) - 1).toNatClampNeg) hR
      obtain ⟨x10, hx10⟩ : ∃ y : Int32, y = v3 + (-1) := ⟨_, rfl⟩
      have hf := kst_eq hx10 hf
      refine lv_iinc (v := x10) (lv' := [(3, .int x10), (0, .ref (ad 0 0)), (1, .int v1), (2, .int v2)]) hx hb dX6_tellKind_62 hl (k := 0) rfl (by rw [hx10]; rfl) (by decide) rfl (fun ls hl => ?_)
      refine lv_goto (tgt := 36) hx hb dX6_tellKind_65 (by decide) ?_
      exact ih _ _ _ (pI σ 3 0 ((4 * v1) + v3).toNatClampNeg (gI σ 3 0 (((4 * v1) + v3) - 1).toNatClampNeg)) x10 v1 v2 hR hS (lv_sub hl [0, 1, 2, 3] rfl) hf
def fX6_tellKind (σ : St) (a1 : Int32) (a2 : Int32) : Option (Int32 × St) := bd (fX6_in σ a1 0 1) (fun q1 => if q1 = 0 then bd (fX6_asks σ 0) (fun q3 => if ¬ q3.1 = 0 then fX6_tellKind_L36 1000 q3.2 3 a1 a2 else some ((0, q3.2))) else bd (fX6_in σ a2 1 9999) (fun q11 => if q11 = 0 then bd (fX6_asks σ 0) (fun q13 => if ¬ q13.1 = 0 then fX6_tellKind_L36 1000 q13.2 3 a1 a2 else some ((0, q13.2))) else bd (fX6_asks σ 1) (fun q15 => if ¬ q15.1 = 0 then fX6_tellKind_L36 1000 q15.2 3 a1 a2 else some ((0, q15.2)))))
set_option maxHeartbeats 4000000 in
set_option maxRecDepth 100000 in
theorem mX6_tellKind (l : Launch) (D : va_G) (dA : Nat → ClassId) (ad : Nat → Nat → Nat) (σ : St) (sz : Nat) (a1 : Int32) (a2 : Int32) (r : Int32) (σ' : St) (hf : fX6_tellKind σ a1 a2 = some (r, σ')) : Met l yX6_tellKind (WSy yX6_tellKind cX6_tellKind 4 (some .int)) ({ frames := 1, cells := 0, slots := 0, locals := 25 } : Room) (va_Pc [.ref (ad 0 0), .int a1, .int a2] (fun U => U.heap.size = sz ∧ HM D dA (fun _ => True) ad σ U.heap ∧ KS D dA U)) (va_Qi (fun (x : Int32) (_ : Unit) => x = r) (fun _ t => HM D dA (WA ad (cvM σ) sz) ad σ' t.heap) (WA ad (cvM σ) sz)) 0 0 (WA ad (cvM σ) sz) := by
  refine met_of (by decide) (Nat.le_of_ble_eq_true rfl) ?_
  intro p e s m below meth c ls hC hB hl
  obtain ⟨rfl, hR, hK⟩ := hB
  have hA : ∀ q : Nat, s.heap.size ≤ q → WA ad (cvM σ) s.heap.size q := fun q h => Or.inr h
  have hR := WW_fit (B := WA ad (cvM σ) s.heap.size) hR (fun f i h => WA_in h)
  have hS : va_S (WA ad (cvM σ) s.heap.size) s.heap s.heap [] := va_S.rf
  generalize WA ad (cvM σ) s.heap.size = A0 at hA hR hS ⊢
  have hC : CTX p s m _ meth c cX6_tellKind 4 RX6 (some .int) := hC
  obtain ⟨hx, hb, hml, hown, hts, hr, hlk⟩ := id hC
  have hl : lv_has ls 4 [(0, .ref (ad 0 0)), (1, .int a1), (2, .int a2)] := hl
  unfold fX6_tellKind at hf
  refine lv_aload_n hx hb dX6_tellKind_0 rfl (lv_at hl 0 rfl) ?_
  refine lv_iload_n hx hb dX6_tellKind_1 rfl (lv_at hl 1 rfl) ?_
  refine lv_iconst (v := 0) hx hb dX6_tellKind_2 (by decide) ?_
  refine lv_iconst (v := 1) hx hb dX6_tellKind_3 (by decide) ?_
  obtain ⟨q1, hcq1, hf⟩ := bd_of hf
  refine kc_i (va_runS (As := [.int a1, .int 0, .int 1]) (rest := [.ref (ad 0 0)]) ⟨hx, hb, hml, hown, hts⟩ (mX6_in l D dA ad σ _ a1 0 1 q1 hcq1) (va_cwS 3 hts gX6_74 rfl rfl rfl (by decide +kernel) ⟨Nat.le_of_ble_eq_true rfl, Nat.le_of_ble_eq_true rfl⟩) (preS_of hR hK _) rfl rfl hl.1 rfl (lv_room (Nat.le_of_ble_eq_true rfl)) dX6_tellKind_4 ⟨Nat.zero_le _, Nat.zero_le _⟩) hA hR hS (fun H locs hR hS => ?_)
  refine lv_if_eq (tgt := 25) hx hb dX6_tellKind_7 (by decide) (fun c2 => ?_) (fun c2 => ?_)
  · have hf := if_of_pos hf c2
    refine lv_iconst (v := 0) hx hb dX6_tellKind_25 (by decide) ?_
    obtain ⟨q3, hcq3, hf⟩ := bd_of hf
    refine kc_i (va_runV (As := [.int 0]) (rest := []) ⟨hx, hb, hml, hown, hts⟩ (mX6_asks l D dA ad σ _ 0 q3.1 q3.2 hcq3) (cwV 1 hts gX6_78 rfl rfl rfl (by decide +kernel) ⟨Nat.le_of_ble_eq_true rfl, Nat.le_of_ble_eq_true rfl⟩) (preV_of hR hK (f := 0) (i := 0) rfl rfl rfl _) rfl rfl hl.1 rfl (lv_room (Nat.le_of_ble_eq_true rfl)) dX6_tellKind_26 ⟨Nat.zero_le _, Nat.zero_le _⟩) hA hR hS (fun H locs hR hS => ?_)
    refine lv_if_ne (tgt := 34) hx hb dX6_tellKind_29 (by decide) (fun c4 => ?_) (fun c4 => ?_)
    · have hf := if_of_pos hf c4
      refine lv_iconst (v := 3) hx hb dX6_tellKind_34 (by decide) ?_
      refine lv_istore_n (lv' := [(3, .int 3), (0, .ref (ad 0 0)), (1, .int a1), (2, .int a2)]) hx hb dX6_tellKind_35 rfl hl (by decide) rfl (fun ls hl => ?_)
      exact wX6_tellKind_L36 hC hK hA 1000 _ _ _ q3.2 3 a1 a2 hR hS (lv_sub hl [0, 1, 2, 3] rfl) hf
    · have hf := if_of_neg hf (fun q => q c4)
      refine lv_iconst (v := 0) hx hb dX6_tellKind_32 (by decide) ?_
      cases hf
      exact ret_i hC hR hS dX6_tellKind_33
  · have hf := if_of_neg hf c2
    refine lv_iload_n hx hb dX6_tellKind_10 rfl (lv_at hl 2 rfl) ?_
    refine lv_iconst (v := 1) hx hb dX6_tellKind_11 (by decide) ?_
    refine lv_sipush (v := 9999) hx hb dX6_tellKind_12 (by decide) ?_
    obtain ⟨q11, hcq11, hf⟩ := bd_of hf
    refine kc_i (va_runS (As := [.int a2, .int 1, .int 9999]) (rest := [.ref (ad 0 0)]) ⟨hx, hb, hml, hown, hts⟩ (mX6_in l D dA ad σ _ a2 1 9999 q11 hcq11) (va_cwS 3 hts gX6_74 rfl rfl rfl (by decide +kernel) ⟨Nat.le_of_ble_eq_true rfl, Nat.le_of_ble_eq_true rfl⟩) (preS_of hR hK _) rfl rfl hl.1 rfl (lv_room (Nat.le_of_ble_eq_true rfl)) dX6_tellKind_15 ⟨Nat.zero_le _, Nat.zero_le _⟩) hA hR hS (fun H locs hR hS => ?_)
    refine lv_if_eq (tgt := 25) hx hb dX6_tellKind_18 (by decide) (fun c12 => ?_) (fun c12 => ?_)
    · have hf := if_of_pos hf c12
      refine lv_iconst (v := 0) hx hb dX6_tellKind_25 (by decide) ?_
      obtain ⟨q13, hcq13, hf⟩ := bd_of hf
      refine kc_i (va_runV (As := [.int 0]) (rest := []) ⟨hx, hb, hml, hown, hts⟩ (mX6_asks l D dA ad σ _ 0 q13.1 q13.2 hcq13) (cwV 1 hts gX6_78 rfl rfl rfl (by decide +kernel) ⟨Nat.le_of_ble_eq_true rfl, Nat.le_of_ble_eq_true rfl⟩) (preV_of hR hK (f := 0) (i := 0) rfl rfl rfl _) rfl rfl hl.1 rfl (lv_room (Nat.le_of_ble_eq_true rfl)) dX6_tellKind_26 ⟨Nat.zero_le _, Nat.zero_le _⟩) hA hR hS (fun H locs hR hS => ?_)
      refine lv_if_ne (tgt := 34) hx hb dX6_tellKind_29 (by decide) (fun c14 => ?_) (fun c14 => ?_)
      · have hf := if_of_pos hf c14
        refine lv_iconst (v := 3) hx hb dX6_tellKind_34 (by decide) ?_
        refine lv_istore_n (lv' := [(3, .int 3), (0, .ref (ad 0 0)), (1, .int a1), (2, .int a2)]) hx hb dX6_tellKind_35 rfl hl (by decide) rfl (fun ls hl => ?_)
        exact wX6_tellKind_L36 hC hK hA 1000 _ _ _ q13.2 3 a1 a2 hR hS (lv_sub hl [0, 1, 2, 3] rfl) hf
      · have hf := if_of_neg hf (fun q => q c14)
        refine lv_iconst (v := 0) hx hb dX6_tellKind_32 (by decide) ?_
        cases hf
        exact ret_i hC hR hS dX6_tellKind_33
    · have hf := if_of_neg hf c12
      refine lv_iconst (v := 1) hx hb dX6_tellKind_21 (by decide) ?_
      refine lv_goto (tgt := 26) hx hb dX6_tellKind_22 (by decide) ?_
      obtain ⟨q15, hcq15, hf⟩ := bd_of hf
      refine kc_i (va_runV (As := [.int 1]) (rest := []) ⟨hx, hb, hml, hown, hts⟩ (mX6_asks l D dA ad σ _ 1 q15.1 q15.2 hcq15) (cwV 1 hts gX6_78 rfl rfl rfl (by decide +kernel) ⟨Nat.le_of_ble_eq_true rfl, Nat.le_of_ble_eq_true rfl⟩) (preV_of hR hK (f := 0) (i := 0) rfl rfl rfl _) rfl rfl hl.1 rfl (lv_room (Nat.le_of_ble_eq_true rfl)) dX6_tellKind_26 ⟨Nat.zero_le _, Nat.zero_le _⟩) hA hR hS (fun H locs hR hS => ?_)
      refine lv_if_ne (tgt := 34) hx hb dX6_tellKind_29 (by decide) (fun c16 => ?_) (fun c16 => ?_)
      · have hf := if_of_pos hf c16
        refine lv_iconst (v := 3) hx hb dX6_tellKind_34 (by decide) ?_
        refine lv_istore_n (lv' := [(3, .int 3), (0, .ref (ad 0 0)), (1, .int a1), (2, .int a2)]) hx hb dX6_tellKind_35 rfl hl (by decide) rfl (fun ls hl => ?_)
        exact wX6_tellKind_L36 hC hK hA 1000 _ _ _ q15.2 3 a1 a2 hR hS (lv_sub hl [0, 1, 2, 3] rfl) hf
      · have hf := if_of_neg hf (fun q => q c16)
        refine lv_iconst (v := 0) hx hb dX6_tellKind_32 (by decide) ?_
        cases hf
        exact ret_i hC hR hS dX6_tellKind_33
def fX6_pay (σ : St) (a1 : Int32) (a2 : Int32) : Option (Int32 × St) := bd (fX6_isMember σ a1) (fun q1 => if q1 = 0 then bd (fX6_asks σ 0) (fun q3 => if ¬ q3.1 = 0 then gd (vin a1 5) (if ¬ (gI q3.2 10 0 a1.toNatClampNeg) = 0 then bd (fX6_fails q3.2 2) (fun q7 => some ((q7.1, q7.2))) else if 0 ≤ a2 then some ((Int64.toInt32 (gL (pL q3.2 6 0 a1.toNatClampNeg ((gL q3.2 6 0 a1.toNatClampNeg) + (Int32.toInt64 a2))) 6 0 a1.toNatClampNeg), pL q3.2 6 0 a1.toNatClampNeg ((gL q3.2 6 0 a1.toNatClampNeg) + (Int32.toInt64 a2)))) else bd (fX6_freeOf q3.2 a1) (fun q9 => if 0 ≤ (q9 + (Int32.toInt64 a2)) then some ((Int64.toInt32 (gL (pL q3.2 6 0 a1.toNatClampNeg ((gL q3.2 6 0 a1.toNatClampNeg) + (Int32.toInt64 a2))) 6 0 a1.toNatClampNeg), pL q3.2 6 0 a1.toNatClampNeg ((gL q3.2 6 0 a1.toNatClampNeg) + (Int32.toInt64 a2)))) else bd (fX6_fails q3.2 2) (fun q11 => some ((q11.1, q11.2))))) else some ((0, q3.2))) else bd (fX6_in σ a2 (-100000) 100000) (fun q12 => if q12 = 0 then bd (fX6_asks σ 0) (fun q14 => if ¬ q14.1 = 0 then gd (vin a1 5) (if ¬ (gI q14.2 10 0 a1.toNatClampNeg) = 0 then bd (fX6_fails q14.2 2) (fun q18 => some ((q18.1, q18.2))) else if 0 ≤ a2 then some ((Int64.toInt32 (gL (pL q14.2 6 0 a1.toNatClampNeg ((gL q14.2 6 0 a1.toNatClampNeg) + (Int32.toInt64 a2))) 6 0 a1.toNatClampNeg), pL q14.2 6 0 a1.toNatClampNeg ((gL q14.2 6 0 a1.toNatClampNeg) + (Int32.toInt64 a2)))) else bd (fX6_freeOf q14.2 a1) (fun q20 => if 0 ≤ (q20 + (Int32.toInt64 a2)) then some ((Int64.toInt32 (gL (pL q14.2 6 0 a1.toNatClampNeg ((gL q14.2 6 0 a1.toNatClampNeg) + (Int32.toInt64 a2))) 6 0 a1.toNatClampNeg), pL q14.2 6 0 a1.toNatClampNeg ((gL q14.2 6 0 a1.toNatClampNeg) + (Int32.toInt64 a2)))) else bd (fX6_fails q14.2 2) (fun q22 => some ((q22.1, q22.2))))) else some ((0, q14.2))) else bd (fX6_asks σ 1) (fun q23 => if ¬ q23.1 = 0 then gd (vin a1 5) (if ¬ (gI q23.2 10 0 a1.toNatClampNeg) = 0 then bd (fX6_fails q23.2 2) (fun q27 => some ((q27.1, q27.2))) else if 0 ≤ a2 then some ((Int64.toInt32 (gL (pL q23.2 6 0 a1.toNatClampNeg ((gL q23.2 6 0 a1.toNatClampNeg) + (Int32.toInt64 a2))) 6 0 a1.toNatClampNeg), pL q23.2 6 0 a1.toNatClampNeg ((gL q23.2 6 0 a1.toNatClampNeg) + (Int32.toInt64 a2)))) else bd (fX6_freeOf q23.2 a1) (fun q29 => if 0 ≤ (q29 + (Int32.toInt64 a2)) then some ((Int64.toInt32 (gL (pL q23.2 6 0 a1.toNatClampNeg ((gL q23.2 6 0 a1.toNatClampNeg) + (Int32.toInt64 a2))) 6 0 a1.toNatClampNeg), pL q23.2 6 0 a1.toNatClampNeg ((gL q23.2 6 0 a1.toNatClampNeg) + (Int32.toInt64 a2)))) else bd (fX6_fails q23.2 2) (fun q31 => some ((q31.1, q31.2))))) else some ((0, q23.2)))))
set_option maxHeartbeats 4000000 in
set_option maxRecDepth 100000 in
theorem mX6_pay (l : Launch) (D : va_G) (dA : Nat → ClassId) (ad : Nat → Nat → Nat) (σ : St) (sz : Nat) (a1 : Int32) (a2 : Int32) (r : Int32) (σ' : St) (hf : fX6_pay σ a1 a2 = some (r, σ')) : Met l yX6_pay (WSy yX6_pay cX6_pay 3 (some .int)) ({ frames := 3, cells := 0, slots := 0, locals := 74 } : Room) (va_Pc [.ref (ad 0 0), .int a1, .int a2] (fun U => U.heap.size = sz ∧ HM D dA (fun _ => True) ad σ U.heap ∧ KS D dA U)) (va_Qi (fun (x : Int32) (_ : Unit) => x = r) (fun _ t => HM D dA (WA ad (cvM σ) sz) ad σ' t.heap) (WA ad (cvM σ) sz)) 0 0 (WA ad (cvM σ) sz) := by
  refine met_of (by decide) (Nat.le_of_ble_eq_true rfl) ?_
  intro p e s m below meth c ls hC hB hl
  obtain ⟨rfl, hR, hK⟩ := hB
  have hA : ∀ q : Nat, s.heap.size ≤ q → WA ad (cvM σ) s.heap.size q := fun q h => Or.inr h
  have hR := WW_fit (B := WA ad (cvM σ) s.heap.size) hR (fun f i h => WA_in h)
  have hS : va_S (WA ad (cvM σ) s.heap.size) s.heap s.heap [] := va_S.rf
  generalize WA ad (cvM σ) s.heap.size = A0 at hA hR hS ⊢
  have hC : CTX p s m _ meth c cX6_pay 3 RX6 (some .int) := hC
  obtain ⟨hx, hb, hml, hown, hts, hr, hlk⟩ := id hC
  have hl : lv_has ls 3 [(0, .ref (ad 0 0)), (1, .int a1), (2, .int a2)] := hl
  unfold fX6_pay at hf
  refine lv_aload_n hx hb dX6_pay_0 rfl (lv_at hl 0 rfl) ?_
  refine lv_iload_n hx hb dX6_pay_1 rfl (lv_at hl 1 rfl) ?_
  obtain ⟨q1, hcq1, hf⟩ := bd_of hf
  refine kc_i (va_runS (As := [.int a1]) (rest := [.ref (ad 0 0)]) ⟨hx, hb, hml, hown, hts⟩ (mX6_isMember l D dA ad σ _ a1 q1 hcq1) (va_cwS 1 hts gX6_109 rfl rfl rfl (by decide +kernel) ⟨Nat.le_of_ble_eq_true rfl, Nat.le_of_ble_eq_true rfl⟩) (preS_of hR hK _) rfl rfl hl.1 rfl (lv_room (Nat.le_of_ble_eq_true rfl)) dX6_pay_2 ⟨Nat.zero_le _, Nat.zero_le _⟩) hA hR hS (fun H locs hR hS => ?_)
  refine lv_if_eq (tgt := 23) hx hb dX6_pay_5 (by decide) (fun c2 => ?_) (fun c2 => ?_)
  · have hf := if_of_pos hf c2
    refine lv_iconst (v := 0) hx hb dX6_pay_23 (by decide) ?_
    obtain ⟨q3, hcq3, hf⟩ := bd_of hf
    refine kc_i (va_runV (As := [.int 0]) (rest := []) ⟨hx, hb, hml, hown, hts⟩ (mX6_asks l D dA ad σ _ 0 q3.1 q3.2 hcq3) (cwV 1 hts gX6_78 rfl rfl rfl (by decide +kernel) ⟨Nat.le_of_ble_eq_true rfl, Nat.le_of_ble_eq_true rfl⟩) (preV_of hR hK (f := 0) (i := 0) rfl rfl rfl _) rfl rfl hl.1 rfl (lv_room (Nat.le_of_ble_eq_true rfl)) dX6_pay_24 ⟨Nat.zero_le _, Nat.zero_le _⟩) hA hR hS (fun H locs hR hS => ?_)
    refine lv_if_ne (tgt := 32) hx hb dX6_pay_27 (by decide) (fun c4 => ?_) (fun c4 => ?_)
    · have hf := if_of_pos hf c4
      refine lv_aload_n hx hb dX6_pay_32 rfl (lv_at hl 0 rfl) ?_
      refine va_get (D := D) (ci := 7) (C := RX6) (T := TX6) (N := 22) hx hb hts iuX6 hown hK.1 (WW_one hR (f := 0) (i := 0) rfl) 0 rfl rfl 9 (by decide) (hts _ q_817) (fun _ h9 => h9) rfl dX6_pay_33 ?_
      refine lv_iload_n hx hb dX6_pay_36 rfl (lv_at hl 1 rfl) ?_
      obtain ⟨g5, hf⟩ := gd_of hf
      refine va_zald hx hb hK.1 (WW_one hR (f := 10) (i := 0) rfl) 0 2 rfl rfl g5 dX6_pay_37 ?_
      refine lv_if_ne (tgt := 58) hx hb dX6_pay_38 (by decide) (fun c6 => ?_) (fun c6 => ?_)
      · have hf := if_of_pos hf c6
        refine lv_aload_n hx hb dX6_pay_58 rfl (lv_at hl 0 rfl) ?_
        refine lv_iconst (v := 2) hx hb dX6_pay_59 (by decide) ?_
        obtain ⟨q7, hcq7, hf⟩ := bd_of hf
        refine kc_i (va_runV (As := [.int 2]) (rest := []) ⟨hx, hb, hml, hown, hts⟩ (mX6_fails l D dA ad q3.2 _ 2 q7.1 q7.2 hcq7) (cwV 1 hts gX6_117 rfl rfl rfl (by decide +kernel) ⟨Nat.le_of_ble_eq_true rfl, Nat.le_of_ble_eq_true rfl⟩) (preV_of hR hK (f := 0) (i := 0) rfl rfl rfl _) rfl rfl hl.1 rfl (lv_room (Nat.le_of_ble_eq_true rfl)) dX6_pay_60 ⟨Nat.zero_le _, Nat.zero_le _⟩) hA hR hS (fun H locs hR hS => ?_)
        cases hf
        exact ret_i hC hR hS dX6_pay_63
      · have hf := if_of_neg hf (fun q => q c6)
        refine lv_iload_n hx hb dX6_pay_41 rfl (lv_at hl 2 rfl) ?_
        refine lv_if_ge (tgt := 64) hx hb dX6_pay_42 (by decide) (fun c8 => ?_) (fun c8 => ?_)
        · have hf := if_of_pos hf c8
          refine lv_aload_n hx hb dX6_pay_64 rfl (lv_at hl 0 rfl) ?_
          refine va_get (D := D) (ci := 7) (C := RX6) (T := TX6) (N := 22) hx hb hts iuX6 hown hK.1 (WW_one hR (f := 0) (i := 0) rfl) 0 rfl rfl 5 (by decide) (hts _ q_813) (fun _ h9 => h9) rfl dX6_pay_65 ?_
          refine lv_iload_n hx hb dX6_pay_68 rfl (lv_at hl 1 rfl) ?_
          refine lv_dup2_11 hx hb dX6_pay_69 rfl rfl ?_
          refine va_lald hx hb hK.1 (WW_one hR (f := 6) (i := 0) rfl) 0 1 rfl rfl g5 dX6_pay_70 ?_
          refine lv_iload_n hx hb dX6_pay_71 rfl (lv_at hl 2 rfl) ?_
          refine lv_i2l hx hb dX6_pay_72 rfl ?_
          refine lv_ladd hx hb dX6_pay_73 ?_
          refine ww_last hx hb hK.1 hR hS 1 (f := 6) (j := 0) rfl rfl rfl g5 dX6_pay_74 (fun H locs hR hS => ?_)
          have hR := HM_row6 0 (a1.toNatClampNeg) ((gL q3.2 6 0 a1.toNatClampNeg) + (Int32.toInt64 a2)) hR
          refine lv_aload_n hx hb dX6_pay_75 rfl (lv_at hl 0 rfl) ?_
          refine va_get (D := D) (ci := 7) (C := RX6) (T := TX6) (N := 22) hx hb hts iuX6 hown hK.1 (WW_one hR (f := 0) (i := 0) rfl) 0 rfl rfl 5 (by decide) (hts _ q_813) (fun _ h9 => h9) rfl dX6_pay_76 ?_
          refine lv_iload_n hx hb dX6_pay_79 rfl (lv_at hl 1 rfl) ?_
          refine va_lald hx hb hK.1 (WW_one hR (f := 6) (i := 0) rfl) 0 1 rfl rfl g5 dX6_pay_80 ?_
          refine lv_l2i hx hb dX6_pay_81 rfl ?_
          cases hf
          exact ret_i hC hR hS dX6_pay_82
        · have hf := if_of_neg hf c8
          refine lv_aload_n hx hb dX6_pay_45 rfl (lv_at hl 0 rfl) ?_
          refine lv_iload_n hx hb dX6_pay_46 rfl (lv_at hl 1 rfl) ?_
          obtain ⟨q9, hcq9, hf⟩ := bd_of hf
          refine kc_l (va_runV (As := [.int a1]) (rest := []) ⟨hx, hb, hml, hown, hts⟩ (mX6_freeOf l D dA ad q3.2 _ a1 q9 hcq9) (cwV 1 hts gX6_114 rfl rfl rfl (by decide +kernel) ⟨Nat.le_of_ble_eq_true rfl, Nat.le_of_ble_eq_true rfl⟩) (preV_of hR hK (f := 0) (i := 0) rfl rfl rfl _) rfl rfl hl.1 rfl (lv_room (Nat.le_of_ble_eq_true rfl)) dX6_pay_47 ⟨Nat.zero_le _, Nat.zero_le _⟩) hA hR hS (fun H locs hR hS => ?_)
          refine lv_iload_n hx hb dX6_pay_50 rfl (lv_at hl 2 rfl) ?_
          refine lv_i2l hx hb dX6_pay_51 rfl ?_
          refine lv_ladd hx hb dX6_pay_52 ?_
          refine lv_lconst (v := 0) hx hb dX6_pay_53 (by decide) ?_
          refine W.lcmp hx hb dX6_pay_54 ?_
          refine lv_if_ge (tgt := 64) hx hb dX6_pay_55 (by decide) (fun c100 => ?_) (fun c100 => ?_)
          · have c10 : 0 ≤ (q9 + (Int32.toInt64 a2)) := (lg_cmp_ge _ _).mp c100
            have hf := if_of_pos hf c10
            refine lv_aload_n hx hb dX6_pay_64 rfl (lv_at hl 0 rfl) ?_
            refine va_get (D := D) (ci := 7) (C := RX6) (T := TX6) (N := 22) hx hb hts iuX6 hown hK.1 (WW_one hR (f := 0) (i := 0) rfl) 0 rfl rfl 5 (by decide) (hts _ q_813) (fun _ h9 => h9) rfl dX6_pay_65 ?_
            refine lv_iload_n hx hb dX6_pay_68 rfl (lv_at hl 1 rfl) ?_
            refine lv_dup2_11 hx hb dX6_pay_69 rfl rfl ?_
            refine va_lald hx hb hK.1 (WW_one hR (f := 6) (i := 0) rfl) 0 1 rfl rfl g5 dX6_pay_70 ?_
            refine lv_iload_n hx hb dX6_pay_71 rfl (lv_at hl 2 rfl) ?_
            refine lv_i2l hx hb dX6_pay_72 rfl ?_
            refine lv_ladd hx hb dX6_pay_73 ?_
            refine ww_last hx hb hK.1 hR hS 1 (f := 6) (j := 0) rfl rfl rfl g5 dX6_pay_74 (fun H locs hR hS => ?_)
            have hR := HM_row6 0 (a1.toNatClampNeg) ((gL q3.2 6 0 a1.toNatClampNeg) + (Int32.toInt64 a2)) hR
            refine lv_aload_n hx hb dX6_pay_75 rfl (lv_at hl 0 rfl) ?_
            refine va_get (D := D) (ci := 7) (C := RX6) (T := TX6) (N := 22) hx hb hts iuX6 hown hK.1 (WW_one hR (f := 0) (i := 0) rfl) 0 rfl rfl 5 (by decide) (hts _ q_813) (fun _ h9 => h9) rfl dX6_pay_76 ?_
            refine lv_iload_n hx hb dX6_pay_79 rfl (lv_at hl 1 rfl) ?_
            refine va_lald hx hb hK.1 (WW_one hR (f := 6) (i := 0) rfl) 0 1 rfl rfl g5 dX6_pay_80 ?_
            refine lv_l2i hx hb dX6_pay_81 rfl ?_
            cases hf
            exact ret_i hC hR hS dX6_pay_82
          · have c10 : ¬ (0 ≤ (q9 + (Int32.toInt64 a2))) := fun q => c100 ((lg_cmp_ge _ _).mpr q)
            have hf := if_of_neg hf c10
            refine lv_aload_n hx hb dX6_pay_58 rfl (lv_at hl 0 rfl) ?_
            refine lv_iconst (v := 2) hx hb dX6_pay_59 (by decide) ?_
            obtain ⟨q11, hcq11, hf⟩ := bd_of hf
            refine kc_i (va_runV (As := [.int 2]) (rest := []) ⟨hx, hb, hml, hown, hts⟩ (mX6_fails l D dA ad q3.2 _ 2 q11.1 q11.2 hcq11) (cwV 1 hts gX6_117 rfl rfl rfl (by decide +kernel) ⟨Nat.le_of_ble_eq_true rfl, Nat.le_of_ble_eq_true rfl⟩) (preV_of hR hK (f := 0) (i := 0) rfl rfl rfl _) rfl rfl hl.1 rfl (lv_room (Nat.le_of_ble_eq_true rfl)) dX6_pay_60 ⟨Nat.zero_le _, Nat.zero_le _⟩) hA hR hS (fun H locs hR hS => ?_)
            cases hf
            exact ret_i hC hR hS dX6_pay_63
    · have hf := if_of_neg hf (fun q => q c4)
      refine lv_iconst (v := 0) hx hb dX6_pay_30 (by decide) ?_
      cases hf
      exact ret_i hC hR hS dX6_pay_31
  · have hf := if_of_neg hf c2
    refine lv_iload_n hx hb dX6_pay_8 rfl (lv_at hl 2 rfl) ?_
    refine lv_ldc (v := (-100000)) hx hb hown (hts _ q_913) dX6_pay_9 ?_
    refine lv_ldc (v := 100000) hx hb hown (hts _ q_914) dX6_pay_11 ?_
    obtain ⟨q12, hcq12, hf⟩ := bd_of hf
    refine kc_i (va_runS (As := [.int a2, .int (-100000), .int 100000]) (rest := [.ref (ad 0 0)]) ⟨hx, hb, hml, hown, hts⟩ (mX6_in l D dA ad σ _ a2 (-100000) 100000 q12 hcq12) (va_cwS 3 hts gX6_74 rfl rfl rfl (by decide +kernel) ⟨Nat.le_of_ble_eq_true rfl, Nat.le_of_ble_eq_true rfl⟩) (preS_of hR hK _) rfl rfl hl.1 rfl (lv_room (Nat.le_of_ble_eq_true rfl)) dX6_pay_13 ⟨Nat.zero_le _, Nat.zero_le _⟩) hA hR hS (fun H locs hR hS => ?_)
    refine lv_if_eq (tgt := 23) hx hb dX6_pay_16 (by decide) (fun c13 => ?_) (fun c13 => ?_)
    · have hf := if_of_pos hf c13
      refine lv_iconst (v := 0) hx hb dX6_pay_23 (by decide) ?_
      obtain ⟨q14, hcq14, hf⟩ := bd_of hf
      refine kc_i (va_runV (As := [.int 0]) (rest := []) ⟨hx, hb, hml, hown, hts⟩ (mX6_asks l D dA ad σ _ 0 q14.1 q14.2 hcq14) (cwV 1 hts gX6_78 rfl rfl rfl (by decide +kernel) ⟨Nat.le_of_ble_eq_true rfl, Nat.le_of_ble_eq_true rfl⟩) (preV_of hR hK (f := 0) (i := 0) rfl rfl rfl _) rfl rfl hl.1 rfl (lv_room (Nat.le_of_ble_eq_true rfl)) dX6_pay_24 ⟨Nat.zero_le _, Nat.zero_le _⟩) hA hR hS (fun H locs hR hS => ?_)
      refine lv_if_ne (tgt := 32) hx hb dX6_pay_27 (by decide) (fun c15 => ?_) (fun c15 => ?_)
      · have hf := if_of_pos hf c15
        refine lv_aload_n hx hb dX6_pay_32 rfl (lv_at hl 0 rfl) ?_
        refine va_get (D := D) (ci := 7) (C := RX6) (T := TX6) (N := 22) hx hb hts iuX6 hown hK.1 (WW_one hR (f := 0) (i := 0) rfl) 0 rfl rfl 9 (by decide) (hts _ q_817) (fun _ h9 => h9) rfl dX6_pay_33 ?_
        refine lv_iload_n hx hb dX6_pay_36 rfl (lv_at hl 1 rfl) ?_
        obtain ⟨g16, hf⟩ := gd_of hf
        refine va_zald hx hb hK.1 (WW_one hR (f := 10) (i := 0) rfl) 0 2 rfl rfl g16 dX6_pay_37 ?_
        refine lv_if_ne (tgt := 58) hx hb dX6_pay_38 (by decide) (fun c17 => ?_) (fun c17 => ?_)
        · have hf := if_of_pos hf c17
          refine lv_aload_n hx hb dX6_pay_58 rfl (lv_at hl 0 rfl) ?_
          refine lv_iconst (v := 2) hx hb dX6_pay_59 (by decide) ?_
          obtain ⟨q18, hcq18, hf⟩ := bd_of hf
          refine kc_i (va_runV (As := [.int 2]) (rest := []) ⟨hx, hb, hml, hown, hts⟩ (mX6_fails l D dA ad q14.2 _ 2 q18.1 q18.2 hcq18) (cwV 1 hts gX6_117 rfl rfl rfl (by decide +kernel) ⟨Nat.le_of_ble_eq_true rfl, Nat.le_of_ble_eq_true rfl⟩) (preV_of hR hK (f := 0) (i := 0) rfl rfl rfl _) rfl rfl hl.1 rfl (lv_room (Nat.le_of_ble_eq_true rfl)) dX6_pay_60 ⟨Nat.zero_le _, Nat.zero_le _⟩) hA hR hS (fun H locs hR hS => ?_)
          cases hf
          exact ret_i hC hR hS dX6_pay_63
        · have hf := if_of_neg hf (fun q => q c17)
          refine lv_iload_n hx hb dX6_pay_41 rfl (lv_at hl 2 rfl) ?_
          refine lv_if_ge (tgt := 64) hx hb dX6_pay_42 (by decide) (fun c19 => ?_) (fun c19 => ?_)
          · have hf := if_of_pos hf c19
            refine lv_aload_n hx hb dX6_pay_64 rfl (lv_at hl 0 rfl) ?_
            refine va_get (D := D) (ci := 7) (C := RX6) (T := TX6) (N := 22) hx hb hts iuX6 hown hK.1 (WW_one hR (f := 0) (i := 0) rfl) 0 rfl rfl 5 (by decide) (hts _ q_813) (fun _ h9 => h9) rfl dX6_pay_65 ?_
            refine lv_iload_n hx hb dX6_pay_68 rfl (lv_at hl 1 rfl) ?_
            refine lv_dup2_11 hx hb dX6_pay_69 rfl rfl ?_
            refine va_lald hx hb hK.1 (WW_one hR (f := 6) (i := 0) rfl) 0 1 rfl rfl g16 dX6_pay_70 ?_
            refine lv_iload_n hx hb dX6_pay_71 rfl (lv_at hl 2 rfl) ?_
            refine lv_i2l hx hb dX6_pay_72 rfl ?_
            refine lv_ladd hx hb dX6_pay_73 ?_
            refine ww_last hx hb hK.1 hR hS 1 (f := 6) (j := 0) rfl rfl rfl g16 dX6_pay_74 (fun H locs hR hS => ?_)
            have hR := HM_row6 0 (a1.toNatClampNeg) ((gL q14.2 6 0 a1.toNatClampNeg) + (Int32.toInt64 a2)) hR
            refine lv_aload_n hx hb dX6_pay_75 rfl (lv_at hl 0 rfl) ?_
            refine va_get (D := D) (ci := 7) (C := RX6) (T := TX6) (N := 22) hx hb hts iuX6 hown hK.1 (WW_one hR (f := 0) (i := 0) rfl) 0 rfl rfl 5 (by decide) (hts _ q_813) (fun _ h9 => h9) rfl dX6_pay_76 ?_
            refine lv_iload_n hx hb dX6_pay_79 rfl (lv_at hl 1 rfl) ?_
            refine va_lald hx hb hK.1 (WW_one hR (f := 6) (i := 0) rfl) 0 1 rfl rfl g16 dX6_pay_80 ?_
            refine lv_l2i hx hb dX6_pay_81 rfl ?_
            cases hf
            exact ret_i hC hR hS dX6_pay_82
          · have hf := if_of_neg hf c19
            refine lv_aload_n hx hb dX6_pay_45 rfl (lv_at hl 0 rfl) ?_
            refine lv_iload_n hx hb dX6_pay_46 rfl (lv_at hl 1 rfl) ?_
            obtain ⟨q20, hcq20, hf⟩ := bd_of hf
            refine kc_l (va_runV (As := [.int a1]) (rest := []) ⟨hx, hb, hml, hown, hts⟩ (mX6_freeOf l D dA ad q14.2 _ a1 q20 hcq20) (cwV 1 hts gX6_114 rfl rfl rfl (by decide +kernel) ⟨Nat.le_of_ble_eq_true rfl, Nat.le_of_ble_eq_true rfl⟩) (preV_of hR hK (f := 0) (i := 0) rfl rfl rfl _) rfl rfl hl.1 rfl (lv_room (Nat.le_of_ble_eq_true rfl)) dX6_pay_47 ⟨Nat.zero_le _, Nat.zero_le _⟩) hA hR hS (fun H locs hR hS => ?_)
            refine lv_iload_n hx hb dX6_pay_50 rfl (lv_at hl 2 rfl) ?_
            refine lv_i2l hx hb dX6_pay_51 rfl ?_
            refine lv_ladd hx hb dX6_pay_52 ?_
            refine lv_lconst (v := 0) hx hb dX6_pay_53 (by decide) ?_
            refine W.lcmp hx hb dX6_pay_54 ?_
            refine lv_if_ge (tgt := 64) hx hb dX6_pay_55 (by decide) (fun c210 => ?_) (fun c210 => ?_)
            · have c21 : 0 ≤ (q20 + (Int32.toInt64 a2)) := (lg_cmp_ge _ _).mp c210
              have hf := if_of_pos hf c21
              refine lv_aload_n hx hb dX6_pay_64 rfl (lv_at hl 0 rfl) ?_
              refine va_get (D := D) (ci := 7) (C := RX6) (T := TX6) (N := 22) hx hb hts iuX6 hown hK.1 (WW_one hR (f := 0) (i := 0) rfl) 0 rfl rfl 5 (by decide) (hts _ q_813) (fun _ h9 => h9) rfl dX6_pay_65 ?_
              refine lv_iload_n hx hb dX6_pay_68 rfl (lv_at hl 1 rfl) ?_
              refine lv_dup2_11 hx hb dX6_pay_69 rfl rfl ?_
              refine va_lald hx hb hK.1 (WW_one hR (f := 6) (i := 0) rfl) 0 1 rfl rfl g16 dX6_pay_70 ?_
              refine lv_iload_n hx hb dX6_pay_71 rfl (lv_at hl 2 rfl) ?_
              refine lv_i2l hx hb dX6_pay_72 rfl ?_
              refine lv_ladd hx hb dX6_pay_73 ?_
              refine ww_last hx hb hK.1 hR hS 1 (f := 6) (j := 0) rfl rfl rfl g16 dX6_pay_74 (fun H locs hR hS => ?_)
              have hR := HM_row6 0 (a1.toNatClampNeg) ((gL q14.2 6 0 a1.toNatClampNeg) + (Int32.toInt64 a2)) hR
              refine lv_aload_n hx hb dX6_pay_75 rfl (lv_at hl 0 rfl) ?_
              refine va_get (D := D) (ci := 7) (C := RX6) (T := TX6) (N := 22) hx hb hts iuX6 hown hK.1 (WW_one hR (f := 0) (i := 0) rfl) 0 rfl rfl 5 (by decide) (hts _ q_813) (fun _ h9 => h9) rfl dX6_pay_76 ?_
              refine lv_iload_n hx hb dX6_pay_79 rfl (lv_at hl 1 rfl) ?_
              refine va_lald hx hb hK.1 (WW_one hR (f := 6) (i := 0) rfl) 0 1 rfl rfl g16 dX6_pay_80 ?_
              refine lv_l2i hx hb dX6_pay_81 rfl ?_
              cases hf
              exact ret_i hC hR hS dX6_pay_82
            · have c21 : ¬ (0 ≤ (q20 + (Int32.toInt64 a2))) := fun q => c210 ((lg_cmp_ge _ _).mpr q)
              have hf := if_of_neg hf c21
              refine lv_aload_n hx hb dX6_pay_58 rfl (lv_at hl 0 rfl) ?_
              refine lv_iconst (v := 2) hx hb dX6_pay_59 (by decide) ?_
              obtain ⟨q22, hcq22, hf⟩ := bd_of hf
              refine kc_i (va_runV (As := [.int 2]) (rest := []) ⟨hx, hb, hml, hown, hts⟩ (mX6_fails l D dA ad q14.2 _ 2 q22.1 q22.2 hcq22) (cwV 1 hts gX6_117 rfl rfl rfl (by decide +kernel) ⟨Nat.le_of_ble_eq_true rfl, Nat.le_of_ble_eq_true rfl⟩) (preV_of hR hK (f := 0) (i := 0) rfl rfl rfl _) rfl rfl hl.1 rfl (lv_room (Nat.le_of_ble_eq_true rfl)) dX6_pay_60 ⟨Nat.zero_le _, Nat.zero_le _⟩) hA hR hS (fun H locs hR hS => ?_)
              cases hf
              exact ret_i hC hR hS dX6_pay_63
      · have hf := if_of_neg hf (fun q => q c15)
        refine lv_iconst (v := 0) hx hb dX6_pay_30 (by decide) ?_
        cases hf
        exact ret_i hC hR hS dX6_pay_31
    · have hf := if_of_neg hf c13
      refine lv_iconst (v := 1) hx hb dX6_pay_19 (by decide) ?_
      refine lv_goto (tgt := 24) hx hb dX6_pay_20 (by decide) ?_
      obtain ⟨q23, hcq23, hf⟩ := bd_of hf
      refine kc_i (va_runV (As := [.int 1]) (rest := []) ⟨hx, hb, hml, hown, hts⟩ (mX6_asks l D dA ad σ _ 1 q23.1 q23.2 hcq23) (cwV 1 hts gX6_78 rfl rfl rfl (by decide +kernel) ⟨Nat.le_of_ble_eq_true rfl, Nat.le_of_ble_eq_true rfl⟩) (preV_of hR hK (f := 0) (i := 0) rfl rfl rfl _) rfl rfl hl.1 rfl (lv_room (Nat.le_of_ble_eq_true rfl)) dX6_pay_24 ⟨Nat.zero_le _, Nat.zero_le _⟩) hA hR hS (fun H locs hR hS => ?_)
      refine lv_if_ne (tgt := 32) hx hb dX6_pay_27 (by decide) (fun c24 => ?_) (fun c24 => ?_)
      · have hf := if_of_pos hf c24
        refine lv_aload_n hx hb dX6_pay_32 rfl (lv_at hl 0 rfl) ?_
        refine va_get (D := D) (ci := 7) (C := RX6) (T := TX6) (N := 22) hx hb hts iuX6 hown hK.1 (WW_one hR (f := 0) (i := 0) rfl) 0 rfl rfl 9 (by decide) (hts _ q_817) (fun _ h9 => h9) rfl dX6_pay_33 ?_
        refine lv_iload_n hx hb dX6_pay_36 rfl (lv_at hl 1 rfl) ?_
        obtain ⟨g25, hf⟩ := gd_of hf
        refine va_zald hx hb hK.1 (WW_one hR (f := 10) (i := 0) rfl) 0 2 rfl rfl g25 dX6_pay_37 ?_
        refine lv_if_ne (tgt := 58) hx hb dX6_pay_38 (by decide) (fun c26 => ?_) (fun c26 => ?_)
        · have hf := if_of_pos hf c26
          refine lv_aload_n hx hb dX6_pay_58 rfl (lv_at hl 0 rfl) ?_
          refine lv_iconst (v := 2) hx hb dX6_pay_59 (by decide) ?_
          obtain ⟨q27, hcq27, hf⟩ := bd_of hf
          refine kc_i (va_runV (As := [.int 2]) (rest := []) ⟨hx, hb, hml, hown, hts⟩ (mX6_fails l D dA ad q23.2 _ 2 q27.1 q27.2 hcq27) (cwV 1 hts gX6_117 rfl rfl rfl (by decide +kernel) ⟨Nat.le_of_ble_eq_true rfl, Nat.le_of_ble_eq_true rfl⟩) (preV_of hR hK (f := 0) (i := 0) rfl rfl rfl _) rfl rfl hl.1 rfl (lv_room (Nat.le_of_ble_eq_true rfl)) dX6_pay_60 ⟨Nat.zero_le _, Nat.zero_le _⟩) hA hR hS (fun H locs hR hS => ?_)
          cases hf
          exact ret_i hC hR hS dX6_pay_63
        · have hf := if_of_neg hf (fun q => q c26)
          refine lv_iload_n hx hb dX6_pay_41 rfl (lv_at hl 2 rfl) ?_
          refine lv_if_ge (tgt := 64) hx hb dX6_pay_42 (by decide) (fun c28 => ?_) (fun c28 => ?_)
          · have hf := if_of_pos hf c28
            refine lv_aload_n hx hb dX6_pay_64 rfl (lv_at hl 0 rfl) ?_
            refine va_get (D := D) (ci := 7) (C := RX6) (T := TX6) (N := 22) hx hb hts iuX6 hown hK.1 (WW_one hR (f := 0) (i := 0) rfl) 0 rfl rfl 5 (by decide) (hts _ q_813) (fun _ h9 => h9) rfl dX6_pay_65 ?_
            refine lv_iload_n hx hb dX6_pay_68 rfl (lv_at hl 1 rfl) ?_
            refine lv_dup2_11 hx hb dX6_pay_69 rfl rfl ?_
            refine va_lald hx hb hK.1 (WW_one hR (f := 6) (i := 0) rfl) 0 1 rfl rfl g25 dX6_pay_70 ?_
            refine lv_iload_n hx hb dX6_pay_71 rfl (lv_at hl 2 rfl) ?_
            refine lv_i2l hx hb dX6_pay_72 rfl ?_
            refine lv_ladd hx hb dX6_pay_73 ?_
            refine ww_last hx hb hK.1 hR hS 1 (f := 6) (j := 0) rfl rfl rfl g25 dX6_pay_74 (fun H locs hR hS => ?_)
            have hR := HM_row6 0 (a1.toNatClampNeg) ((gL q23.2 6 0 a1.toNatClampNeg) + (Int32.toInt64 a2)) hR
            refine lv_aload_n hx hb dX6_pay_75 rfl (lv_at hl 0 rfl) ?_
            refine va_get (D := D) (ci := 7) (C := RX6) (T := TX6) (N := 22) hx hb hts iuX6 hown hK.1 (WW_one hR (f := 0) (i := 0) rfl) 0 rfl rfl 5 (by decide) (hts _ q_813) (fun _ h9 => h9) rfl dX6_pay_76 ?_
            refine lv_iload_n hx hb dX6_pay_79 rfl (lv_at hl 1 rfl) ?_
            refine va_lald hx hb hK.1 (WW_one hR (f := 6) (i := 0) rfl) 0 1 rfl rfl g25 dX6_pay_80 ?_
            refine lv_l2i hx hb dX6_pay_81 rfl ?_
            cases hf
            exact ret_i hC hR hS dX6_pay_82
          · have hf := if_of_neg hf c28
            refine lv_aload_n hx hb dX6_pay_45 rfl (lv_at hl 0 rfl) ?_
            refine lv_iload_n hx hb dX6_pay_46 rfl (lv_at hl 1 rfl) ?_
            obtain ⟨q29, hcq29, hf⟩ := bd_of hf
            refine kc_l (va_runV (As := [.int a1]) (rest := []) ⟨hx, hb, hml, hown, hts⟩ (mX6_freeOf l D dA ad q23.2 _ a1 q29 hcq29) (cwV 1 hts gX6_114 rfl rfl rfl (by decide +kernel) ⟨Nat.le_of_ble_eq_true rfl, Nat.le_of_ble_eq_true rfl⟩) (preV_of hR hK (f := 0) (i := 0) rfl rfl rfl _) rfl rfl hl.1 rfl (lv_room (Nat.le_of_ble_eq_true rfl)) dX6_pay_47 ⟨Nat.zero_le _, Nat.zero_le _⟩) hA hR hS (fun H locs hR hS => ?_)
            refine lv_iload_n hx hb dX6_pay_50 rfl (lv_at hl 2 rfl) ?_
            refine lv_i2l hx hb dX6_pay_51 rfl ?_
            refine lv_ladd hx hb dX6_pay_52 ?_
            refine lv_lconst (v := 0) hx hb dX6_pay_53 (by decide) ?_
            refine W.lcmp hx hb dX6_pay_54 ?_
            refine lv_if_ge (tgt := 64) hx hb dX6_pay_55 (by decide) (fun c300 => ?_) (fun c300 => ?_)
            · have c30 : 0 ≤ (q29 + (Int32.toInt64 a2)) := (lg_cmp_ge _ _).mp c300
              have hf := if_of_pos hf c30
              refine lv_aload_n hx hb dX6_pay_64 rfl (lv_at hl 0 rfl) ?_
              refine va_get (D := D) (ci := 7) (C := RX6) (T := TX6) (N := 22) hx hb hts iuX6 hown hK.1 (WW_one hR (f := 0) (i := 0) rfl) 0 rfl rfl 5 (by decide) (hts _ q_813) (fun _ h9 => h9) rfl dX6_pay_65 ?_
              refine lv_iload_n hx hb dX6_pay_68 rfl (lv_at hl 1 rfl) ?_
              refine lv_dup2_11 hx hb dX6_pay_69 rfl rfl ?_
              refine va_lald hx hb hK.1 (WW_one hR (f := 6) (i := 0) rfl) 0 1 rfl rfl g25 dX6_pay_70 ?_
              refine lv_iload_n hx hb dX6_pay_71 rfl (lv_at hl 2 rfl) ?_
              refine lv_i2l hx hb dX6_pay_72 rfl ?_
              refine lv_ladd hx hb dX6_pay_73 ?_
              refine ww_last hx hb hK.1 hR hS 1 (f := 6) (j := 0) rfl rfl rfl g25 dX6_pay_74 (fun H locs hR hS => ?_)
              have hR := HM_row6 0 (a1.toNatClampNeg) ((gL q23.2 6 0 a1.toNatClampNeg) + (Int32.toInt64 a2)) hR
              refine lv_aload_n hx hb dX6_pay_75 rfl (lv_at hl 0 rfl) ?_
              refine va_get (D := D) (ci := 7) (C := RX6) (T := TX6) (N := 22) hx hb hts iuX6 hown hK.1 (WW_one hR (f := 0) (i := 0) rfl) 0 rfl rfl 5 (by decide) (hts _ q_813) (fun _ h9 => h9) rfl dX6_pay_76 ?_
              refine lv_iload_n hx hb dX6_pay_79 rfl (lv_at hl 1 rfl) ?_
              refine va_lald hx hb hK.1 (WW_one hR (f := 6) (i := 0) rfl) 0 1 rfl rfl g25 dX6_pay_80 ?_
              refine lv_l2i hx hb dX6_pay_81 rfl ?_
              cases hf
              exact ret_i hC hR hS dX6_pay_82
            · have c30 : ¬ (0 ≤ (q29 + (Int32.toInt64 a2))) := fun q => c300 ((lg_cmp_ge _ _).mpr q)
              have hf := if_of_neg hf c30
              refine lv_aload_n hx hb dX6_pay_58 rfl (lv_at hl 0 rfl) ?_
              refine lv_iconst (v := 2) hx hb dX6_pay_59 (by decide) ?_
              obtain ⟨q31, hcq31, hf⟩ := bd_of hf
              refine kc_i (va_runV (As := [.int 2]) (rest := []) ⟨hx, hb, hml, hown, hts⟩ (mX6_fails l D dA ad q23.2 _ 2 q31.1 q31.2 hcq31) (cwV 1 hts gX6_117 rfl rfl rfl (by decide +kernel) ⟨Nat.le_of_ble_eq_true rfl, Nat.le_of_ble_eq_true rfl⟩) (preV_of hR hK (f := 0) (i := 0) rfl rfl rfl _) rfl rfl hl.1 rfl (lv_room (Nat.le_of_ble_eq_true rfl)) dX6_pay_60 ⟨Nat.zero_le _, Nat.zero_le _⟩) hA hR hS (fun H locs hR hS => ?_)
              cases hf
              exact ret_i hC hR hS dX6_pay_63
      · have hf := if_of_neg hf (fun q => q c24)
        refine lv_iconst (v := 0) hx hb dX6_pay_30 (by decide) ?_
        cases hf
        exact ret_i hC hR hS dX6_pay_31
def fX6_bring (σ : St) (a1 : Int32) (a2 : Int32) (a3 : Int32) : Option (Int32 × St) := bd (fX6_isMember σ a1) (fun q1 => if q1 = 0 then bd (fX6_asks σ 0) (fun q3 => if ¬ q3.1 = 0 then gd (vin ((2 * a1) + a2) 10) (kst (gI q3.2 7 0 ((2 * a1) + a2).toNatClampNeg) (fun x6 => gd (vin a1 5) (if ¬ (gI q3.2 10 0 a1.toNatClampNeg) = 0 then bd (fX6_fails q3.2 2) (fun q9 => some ((q9.1, q9.2))) else bd (fX6_in q3.2 (x6 + a3) 0 1000) (fun q10 => if ¬ q10 = 0 then if 0 ≤ a3 then some ((x6 + a3, pI q3.2 7 0 ((2 * a1) + a2).toNatClampNeg (x6 + a3))) else bd (fX6_freeOf (pI q3.2 7 0 ((2 * a1) + a2).toNatClampNeg (x6 + a3)) a1) (fun q13 => if 0 ≤ q13 then some ((x6 + a3, pI q3.2 7 0 ((2 * a1) + a2).toNatClampNeg (x6 + a3))) else bd (fX6_fails (pI (pI q3.2 7 0 ((2 * a1) + a2).toNatClampNeg (x6 + a3)) 7 0 ((2 * a1) + a2).toNatClampNeg x6) 2) (fun q15 => some ((q15.1, q15.2)))) else bd (fX6_fails q3.2 2) (fun q16 => some ((q16.1, q16.2))))))) else some ((0, q3.2))) else bd (fX6_in σ a2 0 1) (fun q17 => if q17 = 0 then bd (fX6_asks σ 0) (fun q19 => if ¬ q19.1 = 0 then gd (vin ((2 * a1) + a2) 10) (kst (gI q19.2 7 0 ((2 * a1) + a2).toNatClampNeg) (fun x22 => gd (vin a1 5) (if ¬ (gI q19.2 10 0 a1.toNatClampNeg) = 0 then bd (fX6_fails q19.2 2) (fun q25 => some ((q25.1, q25.2))) else bd (fX6_in q19.2 (x22 + a3) 0 1000) (fun q26 => if ¬ q26 = 0 then if 0 ≤ a3 then some ((x22 + a3, pI q19.2 7 0 ((2 * a1) + a2).toNatClampNeg (x22 + a3))) else bd (fX6_freeOf (pI q19.2 7 0 ((2 * a1) + a2).toNatClampNeg (x22 + a3)) a1) (fun q29 => if 0 ≤ q29 then some ((x22 + a3, pI q19.2 7 0 ((2 * a1) + a2).toNatClampNeg (x22 + a3))) else bd (fX6_fails (pI (pI q19.2 7 0 ((2 * a1) + a2).toNatClampNeg (x22 + a3)) 7 0 ((2 * a1) + a2).toNatClampNeg x22) 2) (fun q31 => some ((q31.1, q31.2)))) else bd (fX6_fails q19.2 2) (fun q32 => some ((q32.1, q32.2))))))) else some ((0, q19.2))) else bd (fX6_in σ a3 (-1000) 1000) (fun q33 => if q33 = 0 then bd (fX6_asks σ 0) (fun q35 => if ¬ q35.1 = 0 then gd (vin ((2 * a1) + a2) 10) (kst (gI q35.2 7 0 ((2 * a1) + a2).toNatClampNeg) (fun x38 => gd (vin a1 5) (if ¬ (gI q35.2 10 0 a1.toNatClampNeg) = 0 then bd (fX6_fails q35.2 2) (fun q41 => some ((q41.1, q41.2))) else bd (fX6_in q35.2 (x38 + a3) 0 1000) (fun q42 => if ¬ q42 = 0 then if 0 ≤ a3 then some ((x38 + a3, pI q35.2 7 0 ((2 * a1) + a2).toNatClampNeg (x38 + a3))) else bd (fX6_freeOf (pI q35.2 7 0 ((2 * a1) + a2).toNatClampNeg (x38 + a3)) a1) (fun q45 => if 0 ≤ q45 then some ((x38 + a3, pI q35.2 7 0 ((2 * a1) + a2).toNatClampNeg (x38 + a3))) else bd (fX6_fails (pI (pI q35.2 7 0 ((2 * a1) + a2).toNatClampNeg (x38 + a3)) 7 0 ((2 * a1) + a2).toNatClampNeg x38) 2) (fun q47 => some ((q47.1, q47.2)))) else bd (fX6_fails q35.2 2) (fun q48 => some ((q48.1, q48.2))))))) else some ((0, q35.2))) else bd (fX6_asks σ 1) (fun q49 => if ¬ q49.1 = 0 then gd (vin ((2 * a1) + a2) 10) (kst (gI q49.2 7 0 ((2 * a1) + a2).toNatClampNeg) (fun x52 => gd (vin a1 5) (if ¬ (gI q49.2 10 0 a1.toNatClampNeg) = 0 then bd (fX6_fails q49.2 2) (fun q55 => some ((q55.1, q55.2))) else bd (fX6_in q49.2 (x52 + a3) 0 1000) (fun q56 => if ¬ q56 = 0 then if 0 ≤ a3 then some ((x52 + a3, pI q49.2 7 0 ((2 * a1) + a2).toNatClampNeg (x52 + a3))) else bd (fX6_freeOf (pI q49.2 7 0 ((2 * a1) + a2).toNatClampNeg (x52 + a3)) a1) (fun q59 => if 0 ≤ q59 then some ((x52 + a3, pI q49.2 7 0 ((2 * a1) + a2).toNatClampNeg (x52 + a3))) else bd (fX6_fails (pI (pI q49.2 7 0 ((2 * a1) + a2).toNatClampNeg (x52 + a3)) 7 0 ((2 * a1) + a2).toNatClampNeg x52) 2) (fun q61 => some ((q61.1, q61.2)))) else bd (fX6_fails q49.2 2) (fun q62 => some ((q62.1, q62.2))))))) else some ((0, q49.2))))))
set_option maxHeartbeats 4000000 in
set_option maxRecDepth 100000 in
theorem mX6_bring (l : Launch) (D : va_G) (dA : Nat → ClassId) (ad : Nat → Nat → Nat) (σ : St) (sz : Nat) (a1 : Int32) (a2 : Int32) (a3 : Int32) (r : Int32) (σ' : St) (hf : fX6_bring σ a1 a2 a3 = some (r, σ')) : Met l yX6_bring (WSy yX6_bring cX6_bring 5 (some .int)) ({ frames := 3, cells := 0, slots := 0, locals := 74 } : Room) (va_Pc [.ref (ad 0 0), .int a1, .int a2, .int a3] (fun U => U.heap.size = sz ∧ HM D dA (fun _ => True) ad σ U.heap ∧ KS D dA U)) (va_Qi (fun (x : Int32) (_ : Unit) => x = r) (fun _ t => HM D dA (WA ad (cvM σ) sz) ad σ' t.heap) (WA ad (cvM σ) sz)) 0 0 (WA ad (cvM σ) sz) := by
  refine met_of (by decide) (Nat.le_of_ble_eq_true rfl) ?_
  intro p e s m below meth c ls hC hB hl
  obtain ⟨rfl, hR, hK⟩ := hB
  have hA : ∀ q : Nat, s.heap.size ≤ q → WA ad (cvM σ) s.heap.size q := fun q h => Or.inr h
  have hR := WW_fit (B := WA ad (cvM σ) s.heap.size) hR (fun f i h => WA_in h)
  have hS : va_S (WA ad (cvM σ) s.heap.size) s.heap s.heap [] := va_S.rf
  generalize WA ad (cvM σ) s.heap.size = A0 at hA hR hS ⊢
  have hC : CTX p s m _ meth c cX6_bring 5 RX6 (some .int) := hC
  obtain ⟨hx, hb, hml, hown, hts, hr, hlk⟩ := id hC
  have hl : lv_has ls 5 [(0, .ref (ad 0 0)), (1, .int a1), (2, .int a2), (3, .int a3)] := hl
  unfold fX6_bring at hf
  refine lv_aload_n hx hb dX6_bring_0 rfl (lv_at hl 0 rfl) ?_
  refine lv_iload_n hx hb dX6_bring_1 rfl (lv_at hl 1 rfl) ?_
  obtain ⟨q1, hcq1, hf⟩ := bd_of hf
  refine kc_i (va_runS (As := [.int a1]) (rest := [.ref (ad 0 0)]) ⟨hx, hb, hml, hown, hts⟩ (mX6_isMember l D dA ad σ _ a1 q1 hcq1) (va_cwS 1 hts gX6_109 rfl rfl rfl (by decide +kernel) ⟨Nat.le_of_ble_eq_true rfl, Nat.le_of_ble_eq_true rfl⟩) (preS_of hR hK _) rfl rfl hl.1 rfl (lv_room (Nat.le_of_ble_eq_true rfl)) dX6_bring_2 ⟨Nat.zero_le _, Nat.zero_le _⟩) hA hR hS (fun H locs hR hS => ?_)
  refine lv_if_eq (tgt := 34) hx hb dX6_bring_5 (by decide) (fun c2 => ?_) (fun c2 => ?_)
  · have hf := if_of_pos hf c2
    refine lv_iconst (v := 0) hx hb dX6_bring_34 (by decide) ?_
    obtain ⟨q3, hcq3, hf⟩ := bd_of hf
    refine kc_i (va_runV (As := [.int 0]) (rest := []) ⟨hx, hb, hml, hown, hts⟩ (mX6_asks l D dA ad σ _ 0 q3.1 q3.2 hcq3) (cwV 1 hts gX6_78 rfl rfl rfl (by decide +kernel) ⟨Nat.le_of_ble_eq_true rfl, Nat.le_of_ble_eq_true rfl⟩) (preV_of hR hK (f := 0) (i := 0) rfl rfl rfl _) rfl rfl hl.1 rfl (lv_room (Nat.le_of_ble_eq_true rfl)) dX6_bring_35 ⟨Nat.zero_le _, Nat.zero_le _⟩) hA hR hS (fun H locs hR hS => ?_)
    refine lv_if_ne (tgt := 43) hx hb dX6_bring_38 (by decide) (fun c4 => ?_) (fun c4 => ?_)
    · have hf := if_of_pos hf c4
      refine lv_aload_n hx hb dX6_bring_43 rfl (lv_at hl 0 rfl) ?_
      refine va_get (D := D) (ci := 7) (C := RX6) (T := TX6) (N := 22) hx hb hts iuX6 hown hK.1 (WW_one hR (f := 0) (i := 0) rfl) 0 rfl rfl 6 (by decide) (hts _ q_814) (fun _ h9 => h9) rfl dX6_bring_44 ?_
      refine lv_iconst (v := 2) hx hb dX6_bring_47 (by decide) ?_
      refine lv_iload_n hx hb dX6_bring_48 rfl (lv_at hl 1 rfl) ?_
      refine lv_imul hx hb dX6_bring_49 ?_
      refine lv_iload_n hx hb dX6_bring_50 rfl (lv_at hl 2 rfl) ?_
      refine lv_iadd hx hb dX6_bring_51 ?_
      obtain ⟨g5, hf⟩ := gd_of hf
      refine va_iald hx hb hK.1 (WW_one hR (f := 7) (i := 0) rfl) 0 0 rfl rfl g5 dX6_bring_52 ?_
      refine lv_topi (fun x6 hx6 => ?_)
      have hf := kst_eq hx6 hf
      refine lv_istore (lv' := [(4, .int x6), (0, .ref (ad 0 0)), (1, .int a1), (2, .int a2), (3, .int a3)]) hx hb dX6_bring_53 hl (by decide) rfl (fun ls hl => ?_)
      refine lv_aload_n hx hb dX6_bring_55 rfl (lv_at hl 1 rfl) ?_
      refine va_get (D := D) (ci := 7) (C := RX6) (T := TX6) (N := 22) hx hb hts iuX6 hown hK.1 (WW_one hR (f := 0) (i := 0) rfl) 0 rfl rfl 9 (by decide) (hts _ q_817) (fun _ h9 => h9) rfl dX6_bring_56 ?_
      refine lv_iload_n hx hb dX6_bring_59 rfl (lv_at hl 2 rfl) ?_
      obtain ⟨g7, hf⟩ := gd_of hf
      refine va_zald hx hb hK.1 (WW_one hR (f := 10) (i := 0) rfl) 0 2 rfl rfl g7 dX6_bring_60 ?_
      refine lv_if_ne (tgt := 78) hx hb dX6_bring_61 (by decide) (fun c8 => ?_) (fun c8 => ?_)
      · have hf := if_of_pos hf c8
        refine lv_aload_n hx hb dX6_bring_78 rfl (lv_at hl 1 rfl) ?_
        refine lv_iconst (v := 2) hx hb dX6_bring_79 (by decide) ?_
        obtain ⟨q9, hcq9, hf⟩ := bd_of hf
        refine kc_i (va_runV (As := [.int 2]) (rest := []) ⟨hx, hb, hml, hown, hts⟩ (mX6_fails l D dA ad q3.2 _ 2 q9.1 q9.2 hcq9) (cwV 1 hts gX6_117 rfl rfl rfl (by decide +kernel) ⟨Nat.le_of_ble_eq_true rfl, Nat.le_of_ble_eq_true rfl⟩) (preV_of hR hK (f := 0) (i := 0) rfl rfl rfl _) rfl rfl hl.1 rfl (lv_room (Nat.le_of_ble_eq_true rfl)) dX6_bring_80 ⟨Nat.zero_le _, Nat.zero_le _⟩) hA hR hS (fun H locs hR hS => ?_)
        cases hf
        exact ret_i hC hR hS dX6_bring_83
      · have hf := if_of_neg hf (fun q => q c8)
        refine lv_iload hx hb dX6_bring_64 (lv_at hl 0 rfl) ?_
        refine lv_iload_n hx hb dX6_bring_66 rfl (lv_at hl 4 rfl) ?_
        refine lv_iadd hx hb dX6_bring_67 ?_
        refine lv_iconst (v := 0) hx hb dX6_bring_68 (by decide) ?_
        refine lv_sipush (v := 1000) hx hb dX6_bring_69 (by decide) ?_
        obtain ⟨q10, hcq10, hf⟩ := bd_of hf
        refine kc_i (va_runS (As := [.int (x6 + a3), .int 0, .int 1000]) (rest := []) ⟨hx, hb, hml, hown, hts⟩ (mX6_in l D dA ad q3.2 _ (x6 + a3) 0 1000 q10 hcq10) (va_cwS 3 hts gX6_74 rfl rfl rfl (by decide +kernel) ⟨Nat.le_of_ble_eq_true rfl, Nat.le_of_ble_eq_true rfl⟩) (preS_of hR hK _) rfl rfl hl.1 rfl (lv_room (Nat.le_of_ble_eq_true rfl)) dX6_bring_72 ⟨Nat.zero_le _, Nat.zero_le _⟩) hA hR hS (fun H locs hR hS => ?_)
        refine lv_if_ne (tgt := 84) hx hb dX6_bring_75 (by decide) (fun c11 => ?_) (fun c11 => ?_)
        · have hf := if_of_pos hf c11
          refine lv_aload_n hx hb dX6_bring_84 rfl (lv_at hl 1 rfl) ?_
          refine va_get (D := D) (ci := 7) (C := RX6) (T := TX6) (N := 22) hx hb hts iuX6 hown hK.1 (WW_one hR (f := 0) (i := 0) rfl) 0 rfl rfl 6 (by decide) (hts _ q_814) (fun _ h9 => h9) rfl dX6_bring_85 ?_
          refine lv_iconst (v := 2) hx hb dX6_bring_88 (by decide) ?_
          refine lv_iload_n hx hb dX6_bring_89 rfl (lv_at hl 2 rfl) ?_
          refine lv_imul hx hb dX6_bring_90 ?_
          refine lv_iload_n hx hb dX6_bring_91 rfl (lv_at hl 3 rfl) ?_
          refine lv_iadd hx hb dX6_bring_92 ?_
          refine lv_iload hx hb dX6_bring_93 (lv_at hl 0 rfl) ?_
          refine lv_iload_n hx hb dX6_bring_95 rfl (lv_at hl 4 rfl) ?_
          refine lv_iadd hx hb dX6_bring_96 ?_
          refine ww_iast hx hb hK.1 hR hS 0 (f := 7) (j := 0) rfl rfl rfl g5 dX6_bring_97 (fun H locs hR hS => ?_)
          have hR := HM_row7 0 (((2 * a1) + a2).toNatClampNeg) (x6 + a3) hR
          refine lv_iload_n hx hb dX6_bring_98 rfl (lv_at hl 4 rfl) ?_
          refine lv_if_ge (tgt := 130) hx hb dX6_bring_99 (by decide) (fun c12 => ?_) (fun c12 => ?_)
          · have hf := if_of_pos hf c12
            refine lv_iload hx hb dX6_bring_130 (lv_at hl 0 rfl) ?_
            refine lv_iload_n hx hb dX6_bring_132 rfl (lv_at hl 4 rfl) ?_
            refine lv_iadd hx hb dX6_bring_133 ?_
            cases hf
            exact ret_i hC hR hS dX6_bring_134
          · have hf := if_of_neg hf c12
            refine lv_aload_n hx hb dX6_bring_102 rfl (lv_at hl 1 rfl) ?_
            refine lv_iload_n hx hb dX6_bring_103 rfl (lv_at hl 2 rfl) ?_
            obtain ⟨q13, hcq13, hf⟩ := bd_of hf
            refine kc_l (va_runV (As := [.int a1]) (rest := []) ⟨hx, hb, hml, hown, hts⟩ (mX6_freeOf l D dA ad (pI q3.2 7 0 ((2 * a1) + a2).toNatClampNeg (x6 + a3)) _ a1 q13 hcq13) (cwV 1 hts gX6_114 rfl rfl rfl (by decide +kernel) ⟨Nat.le_of_ble_eq_true rfl, Nat.le_of_ble_eq_true rfl⟩) (preV_of hR hK (f := 0) (i := 0) rfl rfl rfl _) rfl rfl hl.1 rfl (lv_room (Nat.le_of_ble_eq_true rfl)) dX6_bring_104 ⟨Nat.zero_le _, Nat.zero_le _⟩) hA hR hS (fun H locs hR hS => ?_)
            refine lv_lconst (v := 0) hx hb dX6_bring_107 (by decide) ?_
            refine W.lcmp hx hb dX6_bring_108 ?_
            refine lv_if_ge (tgt := 130) hx hb dX6_bring_109 (by decide) (fun c140 => ?_) (fun c140 => ?_)
            · have c14 : 0 ≤ q13 := (lg_cmp_ge _ _).mp c140
              have hf := if_of_pos hf c14
              refine lv_iload hx hb dX6_bring_130 (lv_at hl 0 rfl) ?_
              refine lv_iload_n hx hb dX6_bring_132 rfl (lv_at hl 4 rfl) ?_
              refine lv_iadd hx hb dX6_bring_133 ?_
              cases hf
              exact ret_i hC hR hS dX6_bring_134
            · have c14 : ¬ (0 ≤ q13) := fun q => c140 ((lg_cmp_ge _ _).mpr q)
              have hf := if_of_neg hf c14
              refine lv_aload_n hx hb dX6_bring_112 rfl (lv_at hl 1 rfl) ?_
              refine va_get (D := D) (ci := 7) (C := RX6) (T := TX6) (N := 22) hx hb hts iuX6 hown hK.1 (WW_one hR (f := 0) (i := 0) rfl) 0 rfl rfl 6 (by decide) (hts _ q_814) (fun _ h9 => h9) rfl dX6_bring_113 ?_
              refine lv_iconst (v := 2) hx hb dX6_bring_116 (by decide) ?_
              refine lv_iload_n hx hb dX6_bring_117 rfl (lv_at hl 2 rfl) ?_
              refine lv_imul hx hb dX6_bring_118 ?_
              refine lv_iload_n hx hb dX6_bring_119 rfl (lv_at hl 3 rfl) ?_
              refine lv_iadd hx hb dX6_bring_120 ?_
              refine lv_iload hx hb dX6_bring_121 (lv_at hl 0 rfl) ?_
              refine ww_iast hx hb hK.1 hR hS 0 (f := 7) (j := 0) rfl rfl rfl g5 dX6_bring_123 (fun H locs hR hS => ?_)
              have hR := HM_row7 0 (((2 * a1) + a2).toNatClampNeg) x6 hR
              refine lv_aload_n hx hb dX6_bring_124 rfl (lv_at hl 1 rfl) ?_
              refine lv_iconst (v := 2) hx hb dX6_bring_125 (by decide) ?_
              obtain ⟨q15, hcq15, hf⟩ := bd_of hf
              refine kc_i (va_runV (As := [.int 2]) (rest := []) ⟨hx, hb, hml, hown, hts⟩ (mX6_fails l D dA ad (pI (pI q3.2 7 0 ((2 * a1) + a2).toNatClampNeg (x6 + a3)) 7 0 ((2 * a1) + a2).toNatClampNeg x6) _ 2 q15.1 q15.2 hcq15) (cwV 1 hts gX6_117 rfl rfl rfl (by decide +kernel) ⟨Nat.le_of_ble_eq_true rfl, Nat.le_of_ble_eq_true rfl⟩) (preV_of hR hK (f := 0) (i := 0) rfl rfl rfl _) rfl rfl hl.1 rfl (lv_room (Nat.le_of_ble_eq_true rfl)) dX6_bring_126 ⟨Nat.zero_le _, Nat.zero_le _⟩) hA hR hS (fun H locs hR hS => ?_)
              cases hf
              exact ret_i hC hR hS dX6_bring_129
        · have hf := if_of_neg hf (fun q => q c11)
          refine lv_aload_n hx hb dX6_bring_78 rfl (lv_at hl 1 rfl) ?_
          refine lv_iconst (v := 2) hx hb dX6_bring_79 (by decide) ?_
          obtain ⟨q16, hcq16, hf⟩ := bd_of hf
          refine kc_i (va_runV (As := [.int 2]) (rest := []) ⟨hx, hb, hml, hown, hts⟩ (mX6_fails l D dA ad q3.2 _ 2 q16.1 q16.2 hcq16) (cwV 1 hts gX6_117 rfl rfl rfl (by decide +kernel) ⟨Nat.le_of_ble_eq_true rfl, Nat.le_of_ble_eq_true rfl⟩) (preV_of hR hK (f := 0) (i := 0) rfl rfl rfl _) rfl rfl hl.1 rfl (lv_room (Nat.le_of_ble_eq_true rfl)) dX6_bring_80 ⟨Nat.zero_le _, Nat.zero_le _⟩) hA hR hS (fun H locs hR hS => ?_)
          cases hf
          exact ret_i hC hR hS dX6_bring_83
    · have hf := if_of_neg hf (fun q => q c4)
      refine lv_iconst (v := 0) hx hb dX6_bring_41 (by decide) ?_
      cases hf
      exact ret_i hC hR hS dX6_bring_42
  · have hf := if_of_neg hf c2
    refine lv_iload_n hx hb dX6_bring_8 rfl (lv_at hl 2 rfl) ?_
    refine lv_iconst (v := 0) hx hb dX6_bring_9 (by decide) ?_
    refine lv_iconst (v := 1) hx hb dX6_bring_10 (by decide) ?_
    obtain ⟨q17, hcq17, hf⟩ := bd_of hf
    refine kc_i (va_runS (As := [.int a2, .int 0, .int 1]) (rest := [.ref (ad 0 0)]) ⟨hx, hb, hml, hown, hts⟩ (mX6_in l D dA ad σ _ a2 0 1 q17 hcq17) (va_cwS 3 hts gX6_74 rfl rfl rfl (by decide +kernel) ⟨Nat.le_of_ble_eq_true rfl, Nat.le_of_ble_eq_true rfl⟩) (preS_of hR hK _) rfl rfl hl.1 rfl (lv_room (Nat.le_of_ble_eq_true rfl)) dX6_bring_11 ⟨Nat.zero_le _, Nat.zero_le _⟩) hA hR hS (fun H locs hR hS => ?_)
    refine lv_if_eq (tgt := 34) hx hb dX6_bring_14 (by decide) (fun c18 => ?_) (fun c18 => ?_)
    · have hf := if_of_pos hf c18
      refine lv_iconst (v := 0) hx hb dX6_bring_34 (by decide) ?_
      obtain ⟨q19, hcq19, hf⟩ := bd_of hf
      refine kc_i (va_runV (As := [.int 0]) (rest := []) ⟨hx, hb, hml, hown, hts⟩ (mX6_asks l D dA ad σ _ 0 q19.1 q19.2 hcq19) (cwV 1 hts gX6_78 rfl rfl rfl (by decide +kernel) ⟨Nat.le_of_ble_eq_true rfl, Nat.le_of_ble_eq_true rfl⟩) (preV_of hR hK (f := 0) (i := 0) rfl rfl rfl _) rfl rfl hl.1 rfl (lv_room (Nat.le_of_ble_eq_true rfl)) dX6_bring_35 ⟨Nat.zero_le _, Nat.zero_le _⟩) hA hR hS (fun H locs hR hS => ?_)
      refine lv_if_ne (tgt := 43) hx hb dX6_bring_38 (by decide) (fun c20 => ?_) (fun c20 => ?_)
      · have hf := if_of_pos hf c20
        refine lv_aload_n hx hb dX6_bring_43 rfl (lv_at hl 0 rfl) ?_
        refine va_get (D := D) (ci := 7) (C := RX6) (T := TX6) (N := 22) hx hb hts iuX6 hown hK.1 (WW_one hR (f := 0) (i := 0) rfl) 0 rfl rfl 6 (by decide) (hts _ q_814) (fun _ h9 => h9) rfl dX6_bring_44 ?_
        refine lv_iconst (v := 2) hx hb dX6_bring_47 (by decide) ?_
        refine lv_iload_n hx hb dX6_bring_48 rfl (lv_at hl 1 rfl) ?_
        refine lv_imul hx hb dX6_bring_49 ?_
        refine lv_iload_n hx hb dX6_bring_50 rfl (lv_at hl 2 rfl) ?_
        refine lv_iadd hx hb dX6_bring_51 ?_
        obtain ⟨g21, hf⟩ := gd_of hf
        refine va_iald hx hb hK.1 (WW_one hR (f := 7) (i := 0) rfl) 0 0 rfl rfl g21 dX6_bring_52 ?_
        refine lv_topi (fun x22 hx22 => ?_)
        have hf := kst_eq hx22 hf
        refine lv_istore (lv' := [(4, .int x22), (0, .ref (ad 0 0)), (1, .int a1), (2, .int a2), (3, .int a3)]) hx hb dX6_bring_53 hl (by decide) rfl (fun ls hl => ?_)
        refine lv_aload_n hx hb dX6_bring_55 rfl (lv_at hl 1 rfl) ?_
        refine va_get (D := D) (ci := 7) (C := RX6) (T := TX6) (N := 22) hx hb hts iuX6 hown hK.1 (WW_one hR (f := 0) (i := 0) rfl) 0 rfl rfl 9 (by decide) (hts _ q_817) (fun _ h9 => h9) rfl dX6_bring_56 ?_
        refine lv_iload_n hx hb dX6_bring_59 rfl (lv_at hl 2 rfl) ?_
        obtain ⟨g23, hf⟩ := gd_of hf
        refine va_zald hx hb hK.1 (WW_one hR (f := 10) (i := 0) rfl) 0 2 rfl rfl g23 dX6_bring_60 ?_
        refine lv_if_ne (tgt := 78) hx hb dX6_bring_61 (by decide) (fun c24 => ?_) (fun c24 => ?_)
        · have hf := if_of_pos hf c24
          refine lv_aload_n hx hb dX6_bring_78 rfl (lv_at hl 1 rfl) ?_
          refine lv_iconst (v := 2) hx hb dX6_bring_79 (by decide) ?_
          obtain ⟨q25, hcq25, hf⟩ := bd_of hf
          refine kc_i (va_runV (As := [.int 2]) (rest := []) ⟨hx, hb, hml, hown, hts⟩ (mX6_fails l D dA ad q19.2 _ 2 q25.1 q25.2 hcq25) (cwV 1 hts gX6_117 rfl rfl rfl (by decide +kernel) ⟨Nat.le_of_ble_eq_true rfl, Nat.le_of_ble_eq_true rfl⟩) (preV_of hR hK (f := 0) (i := 0) rfl rfl rfl _) rfl rfl hl.1 rfl (lv_room (Nat.le_of_ble_eq_true rfl)) dX6_bring_80 ⟨Nat.zero_le _, Nat.zero_le _⟩) hA hR hS (fun H locs hR hS => ?_)
          cases hf
          exact ret_i hC hR hS dX6_bring_83
        · have hf := if_of_neg hf (fun q => q c24)
          refine lv_iload hx hb dX6_bring_64 (lv_at hl 0 rfl) ?_
          refine lv_iload_n hx hb dX6_bring_66 rfl (lv_at hl 4 rfl) ?_
          refine lv_iadd hx hb dX6_bring_67 ?_
          refine lv_iconst (v := 0) hx hb dX6_bring_68 (by decide) ?_
          refine lv_sipush (v := 1000) hx hb dX6_bring_69 (by decide) ?_
          obtain ⟨q26, hcq26, hf⟩ := bd_of hf
          refine kc_i (va_runS (As := [.int (x22 + a3), .int 0, .int 1000]) (rest := []) ⟨hx, hb, hml, hown, hts⟩ (mX6_in l D dA ad q19.2 _ (x22 + a3) 0 1000 q26 hcq26) (va_cwS 3 hts gX6_74 rfl rfl rfl (by decide +kernel) ⟨Nat.le_of_ble_eq_true rfl, Nat.le_of_ble_eq_true rfl⟩) (preS_of hR hK _) rfl rfl hl.1 rfl (lv_room (Nat.le_of_ble_eq_true rfl)) dX6_bring_72 ⟨Nat.zero_le _, Nat.zero_le _⟩) hA hR hS (fun H locs hR hS => ?_)
          refine lv_if_ne (tgt := 84) hx hb dX6_bring_75 (by decide) (fun c27 => ?_) (fun c27 => ?_)
          · have hf := if_of_pos hf c27
            refine lv_aload_n hx hb dX6_bring_84 rfl (lv_at hl 1 rfl) ?_
            refine va_get (D := D) (ci := 7) (C := RX6) (T := TX6) (N := 22) hx hb hts iuX6 hown hK.1 (WW_one hR (f := 0) (i := 0) rfl) 0 rfl rfl 6 (by decide) (hts _ q_814) (fun _ h9 => h9) rfl dX6_bring_85 ?_
            refine lv_iconst (v := 2) hx hb dX6_bring_88 (by decide) ?_
            refine lv_iload_n hx hb dX6_bring_89 rfl (lv_at hl 2 rfl) ?_
            refine lv_imul hx hb dX6_bring_90 ?_
            refine lv_iload_n hx hb dX6_bring_91 rfl (lv_at hl 3 rfl) ?_
            refine lv_iadd hx hb dX6_bring_92 ?_
            refine lv_iload hx hb dX6_bring_93 (lv_at hl 0 rfl) ?_
            refine lv_iload_n hx hb dX6_bring_95 rfl (lv_at hl 4 rfl) ?_
            refine lv_iadd hx hb dX6_bring_96 ?_
            refine ww_iast hx hb hK.1 hR hS 0 (f := 7) (j := 0) rfl rfl rfl g21 dX6_bring_97 (fun H locs hR hS => ?_)
            have hR := HM_row7 0 (((2 * a1) + a2).toNatClampNeg) (x22 + a3) hR
            refine lv_iload_n hx hb dX6_bring_98 rfl (lv_at hl 4 rfl) ?_
            refine lv_if_ge (tgt := 130) hx hb dX6_bring_99 (by decide) (fun c28 => ?_) (fun c28 => ?_)
            · have hf := if_of_pos hf c28
              refine lv_iload hx hb dX6_bring_130 (lv_at hl 0 rfl) ?_
              refine lv_iload_n hx hb dX6_bring_132 rfl (lv_at hl 4 rfl) ?_
              refine lv_iadd hx hb dX6_bring_133 ?_
              cases hf
              exact ret_i hC hR hS dX6_bring_134
            · have hf := if_of_neg hf c28
              refine lv_aload_n hx hb dX6_bring_102 rfl (lv_at hl 1 rfl) ?_
              refine lv_iload_n hx hb dX6_bring_103 rfl (lv_at hl 2 rfl) ?_
              obtain ⟨q29, hcq29, hf⟩ := bd_of hf
              refine kc_l (va_runV (As := [.int a1]) (rest := []) ⟨hx, hb, hml, hown, hts⟩ (mX6_freeOf l D dA ad (pI q19.2 7 0 ((2 * a1) + a2).toNatClampNeg (x22 + a3)) _ a1 q29 hcq29) (cwV 1 hts gX6_114 rfl rfl rfl (by decide +kernel) ⟨Nat.le_of_ble_eq_true rfl, Nat.le_of_ble_eq_true rfl⟩) (preV_of hR hK (f := 0) (i := 0) rfl rfl rfl _) rfl rfl hl.1 rfl (lv_room (Nat.le_of_ble_eq_true rfl)) dX6_bring_104 ⟨Nat.zero_le _, Nat.zero_le _⟩) hA hR hS (fun H locs hR hS => ?_)
              refine lv_lconst (v := 0) hx hb dX6_bring_107 (by decide) ?_
              refine W.lcmp hx hb dX6_bring_108 ?_
              refine lv_if_ge (tgt := 130) hx hb dX6_bring_109 (by decide) (fun c300 => ?_) (fun c300 => ?_)
              · have c30 : 0 ≤ q29 := (lg_cmp_ge _ _).mp c300
                have hf := if_of_pos hf c30
                refine lv_iload hx hb dX6_bring_130 (lv_at hl 0 rfl) ?_
                refine lv_iload_n hx hb dX6_bring_132 rfl (lv_at hl 4 rfl) ?_
                refine lv_iadd hx hb dX6_bring_133 ?_
                cases hf
                exact ret_i hC hR hS dX6_bring_134
              · have c30 : ¬ (0 ≤ q29) := fun q => c300 ((lg_cmp_ge _ _).mpr q)
                have hf := if_of_neg hf c30
                refine lv_aload_n hx hb dX6_bring_112 rfl (lv_at hl 1 rfl) ?_
                refine va_get (D := D) (ci := 7) (C := RX6) (T := TX6) (N := 22) hx hb hts iuX6 hown hK.1 (WW_one hR (f := 0) (i := 0) rfl) 0 rfl rfl 6 (by decide) (hts _ q_814) (fun _ h9 => h9) rfl dX6_bring_113 ?_
                refine lv_iconst (v := 2) hx hb dX6_bring_116 (by decide) ?_
                refine lv_iload_n hx hb dX6_bring_117 rfl (lv_at hl 2 rfl) ?_
                refine lv_imul hx hb dX6_bring_118 ?_
                refine lv_iload_n hx hb dX6_bring_119 rfl (lv_at hl 3 rfl) ?_
                refine lv_iadd hx hb dX6_bring_120 ?_
                refine lv_iload hx hb dX6_bring_121 (lv_at hl 0 rfl) ?_
                refine ww_iast hx hb hK.1 hR hS 0 (f := 7) (j := 0) rfl rfl rfl g21 dX6_bring_123 (fun H locs hR hS => ?_)
                have hR := HM_row7 0 (((2 * a1) + a2).toNatClampNeg) x22 hR
                refine lv_aload_n hx hb dX6_bring_124 rfl (lv_at hl 1 rfl) ?_
                refine lv_iconst (v := 2) hx hb dX6_bring_125 (by decide) ?_
                obtain ⟨q31, hcq31, hf⟩ := bd_of hf
                refine kc_i (va_runV (As := [.int 2]) (rest := []) ⟨hx, hb, hml, hown, hts⟩ (mX6_fails l D dA ad (pI (pI q19.2 7 0 ((2 * a1) + a2).toNatClampNeg (x22 + a3)) 7 0 ((2 * a1) + a2).toNatClampNeg x22) _ 2 q31.1 q31.2 hcq31) (cwV 1 hts gX6_117 rfl rfl rfl (by decide +kernel) ⟨Nat.le_of_ble_eq_true rfl, Nat.le_of_ble_eq_true rfl⟩) (preV_of hR hK (f := 0) (i := 0) rfl rfl rfl _) rfl rfl hl.1 rfl (lv_room (Nat.le_of_ble_eq_true rfl)) dX6_bring_126 ⟨Nat.zero_le _, Nat.zero_le _⟩) hA hR hS (fun H locs hR hS => ?_)
                cases hf
                exact ret_i hC hR hS dX6_bring_129
          · have hf := if_of_neg hf (fun q => q c27)
            refine lv_aload_n hx hb dX6_bring_78 rfl (lv_at hl 1 rfl) ?_
            refine lv_iconst (v := 2) hx hb dX6_bring_79 (by decide) ?_
            obtain ⟨q32, hcq32, hf⟩ := bd_of hf
            refine kc_i (va_runV (As := [.int 2]) (rest := []) ⟨hx, hb, hml, hown, hts⟩ (mX6_fails l D dA ad q19.2 _ 2 q32.1 q32.2 hcq32) (cwV 1 hts gX6_117 rfl rfl rfl (by decide +kernel) ⟨Nat.le_of_ble_eq_true rfl, Nat.le_of_ble_eq_true rfl⟩) (preV_of hR hK (f := 0) (i := 0) rfl rfl rfl _) rfl rfl hl.1 rfl (lv_room (Nat.le_of_ble_eq_true rfl)) dX6_bring_80 ⟨Nat.zero_le _, Nat.zero_le _⟩) hA hR hS (fun H locs hR hS => ?_)
            cases hf
            exact ret_i hC hR hS dX6_bring_83
      · have hf := if_of_neg hf (fun q => q c20)
        refine lv_iconst (v := 0) hx hb dX6_bring_41 (by decide) ?_
        cases hf
        exact ret_i hC hR hS dX6_bring_42
    · have hf := if_of_neg hf c18
      refine lv_iload_n hx hb dX6_bring_17 rfl (lv_at hl 3 rfl) ?_
      refine lv_sipush (v := (-1000)) hx hb dX6_bring_18 (by decide) ?_
      refine lv_sipush (v := 1000) hx hb dX6_bring_21 (by decide) ?_
      obtain ⟨q33, hcq33, hf⟩ := bd_of hf
      refine kc_i (va_runS (As := [.int a3, .int (-1000), .int 1000]) (rest := [.ref (ad 0 0)]) ⟨hx, hb, hml, hown, hts⟩ (mX6_in l D dA ad σ _ a3 (-1000) 1000 q33 hcq33) (va_cwS 3 hts gX6_74 rfl rfl rfl (by decide +kernel) ⟨Nat.le_of_ble_eq_true rfl, Nat.le_of_ble_eq_true rfl⟩) (preS_of hR hK _) rfl rfl hl.1 rfl (lv_room (Nat.le_of_ble_eq_true rfl)) dX6_bring_24 ⟨Nat.zero_le _, Nat.zero_le _⟩) hA hR hS (fun H locs hR hS => ?_)
      refine lv_if_eq (tgt := 34) hx hb dX6_bring_27 (by decide) (fun c34 => ?_) (fun c34 => ?_)
      · have hf := if_of_pos hf c34
        refine lv_iconst (v := 0) hx hb dX6_bring_34 (by decide) ?_
        obtain ⟨q35, hcq35, hf⟩ := bd_of hf
        refine kc_i (va_runV (As := [.int 0]) (rest := []) ⟨hx, hb, hml, hown, hts⟩ (mX6_asks l D dA ad σ _ 0 q35.1 q35.2 hcq35) (cwV 1 hts gX6_78 rfl rfl rfl (by decide +kernel) ⟨Nat.le_of_ble_eq_true rfl, Nat.le_of_ble_eq_true rfl⟩) (preV_of hR hK (f := 0) (i := 0) rfl rfl rfl _) rfl rfl hl.1 rfl (lv_room (Nat.le_of_ble_eq_true rfl)) dX6_bring_35 ⟨Nat.zero_le _, Nat.zero_le _⟩) hA hR hS (fun H locs hR hS => ?_)
        refine lv_if_ne (tgt := 43) hx hb dX6_bring_38 (by decide) (fun c36 => ?_) (fun c36 => ?_)
        · have hf := if_of_pos hf c36
          refine lv_aload_n hx hb dX6_bring_43 rfl (lv_at hl 0 rfl) ?_
          refine va_get (D := D) (ci := 7) (C := RX6) (T := TX6) (N := 22) hx hb hts iuX6 hown hK.1 (WW_one hR (f := 0) (i := 0) rfl) 0 rfl rfl 6 (by decide) (hts _ q_814) (fun _ h9 => h9) rfl dX6_bring_44 ?_
          refine lv_iconst (v := 2) hx hb dX6_bring_47 (by decide) ?_
          refine lv_iload_n hx hb dX6_bring_48 rfl (lv_at hl 1 rfl) ?_
          refine lv_imul hx hb dX6_bring_49 ?_
          refine lv_iload_n hx hb dX6_bring_50 rfl (lv_at hl 2 rfl) ?_
          refine lv_iadd hx hb dX6_bring_51 ?_
          obtain ⟨g37, hf⟩ := gd_of hf
          refine va_iald hx hb hK.1 (WW_one hR (f := 7) (i := 0) rfl) 0 0 rfl rfl g37 dX6_bring_52 ?_
          refine lv_topi (fun x38 hx38 => ?_)
          have hf := kst_eq hx38 hf
          refine lv_istore (lv' := [(4, .int x38), (0, .ref (ad 0 0)), (1, .int a1), (2, .int a2), (3, .int a3)]) hx hb dX6_bring_53 hl (by decide) rfl (fun ls hl => ?_)
          refine lv_aload_n hx hb dX6_bring_55 rfl (lv_at hl 1 rfl) ?_
          refine va_get (D := D) (ci := 7) (C := RX6) (T := TX6) (N := 22) hx hb hts iuX6 hown hK.1 (WW_one hR (f := 0) (i := 0) rfl) 0 rfl rfl 9 (by decide) (hts _ q_817) (fun _ h9 => h9) rfl dX6_bring_56 ?_
          refine lv_iload_n hx hb dX6_bring_59 rfl (lv_at hl 2 rfl) ?_
          obtain ⟨g39, hf⟩ := gd_of hf
          refine va_zald hx hb hK.1 (WW_one hR (f := 10) (i := 0) rfl) 0 2 rfl rfl g39 dX6_bring_60 ?_
          refine lv_if_ne (tgt := 78) hx hb dX6_bring_61 (by decide) (fun c40 => ?_) (fun c40 => ?_)
          · have hf := if_of_pos hf c40
            refine lv_aload_n hx hb dX6_bring_78 rfl (lv_at hl 1 rfl) ?_
            refine lv_iconst (v := 2) hx hb dX6_bring_79 (by decide) ?_
            obtain ⟨q41, hcq41, hf⟩ := bd_of hf
            refine kc_i (va_runV (As := [.int 2]) (rest := []) ⟨hx, hb, hml, hown, hts⟩ (mX6_fails l D dA ad q35.2 _ 2 q41.1 q41.2 hcq41) (cwV 1 hts gX6_117 rfl rfl rfl (by decide +kernel) ⟨Nat.le_of_ble_eq_true rfl, Nat.le_of_ble_eq_true rfl⟩) (preV_of hR hK (f := 0) (i := 0) rfl rfl rfl _) rfl rfl hl.1 rfl (lv_room (Nat.le_of_ble_eq_true rfl)) dX6_bring_80 ⟨Nat.zero_le _, Nat.zero_le _⟩) hA hR hS (fun H locs hR hS => ?_)
            cases hf
            exact ret_i hC hR hS dX6_bring_83
          · have hf := if_of_neg hf (fun q => q c40)
            refine lv_iload hx hb dX6_bring_64 (lv_at hl 0 rfl) ?_
            refine lv_iload_n hx hb dX6_bring_66 rfl (lv_at hl 4 rfl) ?_
            refine lv_iadd hx hb dX6_bring_67 ?_
            refine lv_iconst (v := 0) hx hb dX6_bring_68 (by decide) ?_
            refine lv_sipush (v := 1000) hx hb dX6_bring_69 (by decide) ?_
            obtain ⟨q42, hcq42, hf⟩ := bd_of hf
            refine kc_i (va_runS (As := [.int (x38 + a3), .int 0, .int 1000]) (rest := []) ⟨hx, hb, hml, hown, hts⟩ (mX6_in l D dA ad q35.2 _ (x38 + a3) 0 1000 q42 hcq42) (va_cwS 3 hts gX6_74 rfl rfl rfl (by decide +kernel) ⟨Nat.le_of_ble_eq_true rfl, Nat.le_of_ble_eq_true rfl⟩) (preS_of hR hK _) rfl rfl hl.1 rfl (lv_room (Nat.le_of_ble_eq_true rfl)) dX6_bring_72 ⟨Nat.zero_le _, Nat.zero_le _⟩) hA hR hS (fun H locs hR hS => ?_)
            refine lv_if_ne (tgt := 84) hx hb dX6_bring_75 (by decide) (fun c43 => ?_) (fun c43 => ?_)
            · have hf := if_of_pos hf c43
              refine lv_aload_n hx hb dX6_bring_84 rfl (lv_at hl 1 rfl) ?_
              refine va_get (D := D) (ci := 7) (C := RX6) (T := TX6) (N := 22) hx hb hts iuX6 hown hK.1 (WW_one hR (f := 0) (i := 0) rfl) 0 rfl rfl 6 (by decide) (hts _ q_814) (fun _ h9 => h9) rfl dX6_bring_85 ?_
              refine lv_iconst (v := 2) hx hb dX6_bring_88 (by decide) ?_
              refine lv_iload_n hx hb dX6_bring_89 rfl (lv_at hl 2 rfl) ?_
              refine lv_imul hx hb dX6_bring_90 ?_
              refine lv_iload_n hx hb dX6_bring_91 rfl (lv_at hl 3 rfl) ?_
              refine lv_iadd hx hb dX6_bring_92 ?_
              refine lv_iload hx hb dX6_bring_93 (lv_at hl 0 rfl) ?_
              refine lv_iload_n hx hb dX6_bring_95 rfl (lv_at hl 4 rfl) ?_
              refine lv_iadd hx hb dX6_bring_96 ?_
              refine ww_iast hx hb hK.1 hR hS 0 (f := 7) (j := 0) rfl rfl rfl g37 dX6_bring_97 (fun H locs hR hS => ?_)
              have hR := HM_row7 0 (((2 * a1) + a2).toNatClampNeg) (x38 + a3) hR
              refine lv_iload_n hx hb dX6_bring_98 rfl (lv_at hl 4 rfl) ?_
              refine lv_if_ge (tgt := 130) hx hb dX6_bring_99 (by decide) (fun c44 => ?_) (fun c44 => ?_)
              · have hf := if_of_pos hf c44
                refine lv_iload hx hb dX6_bring_130 (lv_at hl 0 rfl) ?_
                refine lv_iload_n hx hb dX6_bring_132 rfl (lv_at hl 4 rfl) ?_
                refine lv_iadd hx hb dX6_bring_133 ?_
                cases hf
                exact ret_i hC hR hS dX6_bring_134
              · have hf := if_of_neg hf c44
                refine lv_aload_n hx hb dX6_bring_102 rfl (lv_at hl 1 rfl) ?_
                refine lv_iload_n hx hb dX6_bring_103 rfl (lv_at hl 2 rfl) ?_
                obtain ⟨q45, hcq45, hf⟩ := bd_of hf
                refine kc_l (va_runV (As := [.int a1]) (rest := []) ⟨hx, hb, hml, hown, hts⟩ (mX6_freeOf l D dA ad (pI q35.2 7 0 ((2 * a1) + a2).toNatClampNeg (x38 + a3)) _ a1 q45 hcq45) (cwV 1 hts gX6_114 rfl rfl rfl (by decide +kernel) ⟨Nat.le_of_ble_eq_true rfl, Nat.le_of_ble_eq_true rfl⟩) (preV_of hR hK (f := 0) (i := 0) rfl rfl rfl _) rfl rfl hl.1 rfl (lv_room (Nat.le_of_ble_eq_true rfl)) dX6_bring_104 ⟨Nat.zero_le _, Nat.zero_le _⟩) hA hR hS (fun H locs hR hS => ?_)
                refine lv_lconst (v := 0) hx hb dX6_bring_107 (by decide) ?_
                refine W.lcmp hx hb dX6_bring_108 ?_
                refine lv_if_ge (tgt := 130) hx hb dX6_bring_109 (by decide) (fun c460 => ?_) (fun c460 => ?_)
                · have c46 : 0 ≤ q45 := (lg_cmp_ge _ _).mp c460
                  have hf := if_of_pos hf c46
                  refine lv_iload hx hb dX6_bring_130 (lv_at hl 0 rfl) ?_
                  refine lv_iload_n hx hb dX6_bring_132 rfl (lv_at hl 4 rfl) ?_
                  refine lv_iadd hx hb dX6_bring_133 ?_
                  cases hf
                  exact ret_i hC hR hS dX6_bring_134
                · have c46 : ¬ (0 ≤ q45) := fun q => c460 ((lg_cmp_ge _ _).mpr q)
                  have hf := if_of_neg hf c46
                  refine lv_aload_n hx hb dX6_bring_112 rfl (lv_at hl 1 rfl) ?_
                  refine va_get (D := D) (ci := 7) (C := RX6) (T := TX6) (N := 22) hx hb hts iuX6 hown hK.1 (WW_one hR (f := 0) (i := 0) rfl) 0 rfl rfl 6 (by decide) (hts _ q_814) (fun _ h9 => h9) rfl dX6_bring_113 ?_
                  refine lv_iconst (v := 2) hx hb dX6_bring_116 (by decide) ?_
                  refine lv_iload_n hx hb dX6_bring_117 rfl (lv_at hl 2 rfl) ?_
                  refine lv_imul hx hb dX6_bring_118 ?_
                  refine lv_iload_n hx hb dX6_bring_119 rfl (lv_at hl 3 rfl) ?_
                  refine lv_iadd hx hb dX6_bring_120 ?_
                  refine lv_iload hx hb dX6_bring_121 (lv_at hl 0 rfl) ?_
                  refine ww_iast hx hb hK.1 hR hS 0 (f := 7) (j := 0) rfl rfl rfl g37 dX6_bring_123 (fun H locs hR hS => ?_)
                  have hR := HM_row7 0 (((2 * a1) + a2).toNatClampNeg) x38 hR
                  refine lv_aload_n hx hb dX6_bring_124 rfl (lv_at hl 1 rfl) ?_
                  refine lv_iconst (v := 2) hx hb dX6_bring_125 (by decide) ?_
                  obtain ⟨q47, hcq47, hf⟩ := bd_of hf
                  refine kc_i (va_runV (As := [.int 2]) (rest := []) ⟨hx, hb, hml, hown, hts⟩ (mX6_fails l D dA ad (pI (pI q35.2 7 0 ((2 * a1) + a2).toNatClampNeg (x38 + a3)) 7 0 ((2 * a1) + a2).toNatClampNeg x38) _ 2 q47.1 q47.2 hcq47) (cwV 1 hts gX6_117 rfl rfl rfl (by decide +kernel) ⟨Nat.le_of_ble_eq_true rfl, Nat.le_of_ble_eq_true rfl⟩) (preV_of hR hK (f := 0) (i := 0) rfl rfl rfl _) rfl rfl hl.1 rfl (lv_room (Nat.le_of_ble_eq_true rfl)) dX6_bring_126 ⟨Nat.zero_le _, Nat.zero_le _⟩) hA hR hS (fun H locs hR hS => ?_)
                  cases hf
                  exact ret_i hC hR hS dX6_bring_129
            · have hf := if_of_neg hf (fun q => q c43)
              refine lv_aload_n hx hb dX6_bring_78 rfl (lv_at hl 1 rfl) ?_
              refine lv_iconst (v := 2) hx hb dX6_bring_79 (by decide) ?_
              obtain ⟨q48, hcq48, hf⟩ := bd_of hf
              refine kc_i (va_runV (As := [.int 2]) (rest := []) ⟨hx, hb, hml, hown, hts⟩ (mX6_fails l D dA ad q35.2 _ 2 q48.1 q48.2 hcq48) (cwV 1 hts gX6_117 rfl rfl rfl (by decide +kernel) ⟨Nat.le_of_ble_eq_true rfl, Nat.le_of_ble_eq_true rfl⟩) (preV_of hR hK (f := 0) (i := 0) rfl rfl rfl _) rfl rfl hl.1 rfl (lv_room (Nat.le_of_ble_eq_true rfl)) dX6_bring_80 ⟨Nat.zero_le _, Nat.zero_le _⟩) hA hR hS (fun H locs hR hS => ?_)
              cases hf
              exact ret_i hC hR hS dX6_bring_83
        · have hf := if_of_neg hf (fun q => q c36)
          refine lv_iconst (v := 0) hx hb dX6_bring_41 (by decide) ?_
          cases hf
          exact ret_i hC hR hS dX6_bring_42
      · have hf := if_of_neg hf c34
        refine lv_iconst (v := 1) hx hb dX6_bring_30 (by decide) ?_
        refine lv_goto (tgt := 35) hx hb dX6_bring_31 (by decide) ?_
        obtain ⟨q49, hcq49, hf⟩ := bd_of hf
        refine kc_i (va_runV (As := [.int 1]) (rest := []) ⟨hx, hb, hml, hown, hts⟩ (mX6_asks l D dA ad σ _ 1 q49.1 q49.2 hcq49) (cwV 1 hts gX6_78 rfl rfl rfl (by decide +kernel) ⟨Nat.le_of_ble_eq_true rfl, Nat.le_of_ble_eq_true rfl⟩) (preV_of hR hK (f := 0) (i := 0) rfl rfl rfl _) rfl rfl hl.1 rfl (lv_room (Nat.le_of_ble_eq_true rfl)) dX6_bring_35 ⟨Nat.zero_le _, Nat.zero_le _⟩) hA hR hS (fun H locs hR hS => ?_)
        refine lv_if_ne (tgt := 43) hx hb dX6_bring_38 (by decide) (fun c50 => ?_) (fun c50 => ?_)
        · have hf := if_of_pos hf c50
          refine lv_aload_n hx hb dX6_bring_43 rfl (lv_at hl 0 rfl) ?_
          refine va_get (D := D) (ci := 7) (C := RX6) (T := TX6) (N := 22) hx hb hts iuX6 hown hK.1 (WW_one hR (f := 0) (i := 0) rfl) 0 rfl rfl 6 (by decide) (hts _ q_814) (fun _ h9 => h9) rfl dX6_bring_44 ?_
          refine lv_iconst (v := 2) hx hb dX6_bring_47 (by decide) ?_
          refine lv_iload_n hx hb dX6_bring_48 rfl (lv_at hl 1 rfl) ?_
          refine lv_imul hx hb dX6_bring_49 ?_
          refine lv_iload_n hx hb dX6_bring_50 rfl (lv_at hl 2 rfl) ?_
          refine lv_iadd hx hb dX6_bring_51 ?_
          obtain ⟨g51, hf⟩ := gd_of hf
          refine va_iald hx hb hK.1 (WW_one hR (f := 7) (i := 0) rfl) 0 0 rfl rfl g51 dX6_bring_52 ?_
          refine lv_topi (fun x52 hx52 => ?_)
          have hf := kst_eq hx52 hf
          refine lv_istore (lv' := [(4, .int x52), (0, .ref (ad 0 0)), (1, .int a1), (2, .int a2), (3, .int a3)]) hx hb dX6_bring_53 hl (by decide) rfl (fun ls hl => ?_)
          refine lv_aload_n hx hb dX6_bring_55 rfl (lv_at hl 1 rfl) ?_
          refine va_get (D := D) (ci := 7) (C := RX6) (T := TX6) (N := 22) hx hb hts iuX6 hown hK.1 (WW_one hR (f := 0) (i := 0) rfl) 0 rfl rfl 9 (by decide) (hts _ q_817) (fun _ h9 => h9) rfl dX6_bring_56 ?_
          refine lv_iload_n hx hb dX6_bring_59 rfl (lv_at hl 2 rfl) ?_
          obtain ⟨g53, hf⟩ := gd_of hf
          refine va_zald hx hb hK.1 (WW_one hR (f := 10) (i := 0) rfl) 0 2 rfl rfl g53 dX6_bring_60 ?_
          refine lv_if_ne (tgt := 78) hx hb dX6_bring_61 (by decide) (fun c54 => ?_) (fun c54 => ?_)
          · have hf := if_of_pos hf c54
            refine lv_aload_n hx hb dX6_bring_78 rfl (lv_at hl 1 rfl) ?_
            refine lv_iconst (v := 2) hx hb dX6_bring_79 (by decide) ?_
            obtain ⟨q55, hcq55, hf⟩ := bd_of hf
            refine kc_i (va_runV (As := [.int 2]) (rest := []) ⟨hx, hb, hml, hown, hts⟩ (mX6_fails l D dA ad q49.2 _ 2 q55.1 q55.2 hcq55) (cwV 1 hts gX6_117 rfl rfl rfl (by decide +kernel) ⟨Nat.le_of_ble_eq_true rfl, Nat.le_of_ble_eq_true rfl⟩) (preV_of hR hK (f := 0) (i := 0) rfl rfl rfl _) rfl rfl hl.1 rfl (lv_room (Nat.le_of_ble_eq_true rfl)) dX6_bring_80 ⟨Nat.zero_le _, Nat.zero_le _⟩) hA hR hS (fun H locs hR hS => ?_)
            cases hf
            exact ret_i hC hR hS dX6_bring_83
          · have hf := if_of_neg hf (fun q => q c54)
            refine lv_iload hx hb dX6_bring_64 (lv_at hl 0 rfl) ?_
            refine lv_iload_n hx hb dX6_bring_66 rfl (lv_at hl 4 rfl) ?_
            refine lv_iadd hx hb dX6_bring_67 ?_
            refine lv_iconst (v := 0) hx hb dX6_bring_68 (by decide) ?_
            refine lv_sipush (v := 1000) hx hb dX6_bring_69 (by decide) ?_
            obtain ⟨q56, hcq56, hf⟩ := bd_of hf
            refine kc_i (va_runS (As := [.int (x52 + a3), .int 0, .int 1000]) (rest := []) ⟨hx, hb, hml, hown, hts⟩ (mX6_in l D dA ad q49.2 _ (x52 + a3) 0 1000 q56 hcq56) (va_cwS 3 hts gX6_74 rfl rfl rfl (by decide +kernel) ⟨Nat.le_of_ble_eq_true rfl, Nat.le_of_ble_eq_true rfl⟩) (preS_of hR hK _) rfl rfl hl.1 rfl (lv_room (Nat.le_of_ble_eq_true rfl)) dX6_bring_72 ⟨Nat.zero_le _, Nat.zero_le _⟩) hA hR hS (fun H locs hR hS => ?_)
            refine lv_if_ne (tgt := 84) hx hb dX6_bring_75 (by decide) (fun c57 => ?_) (fun c57 => ?_)
            · have hf := if_of_pos hf c57
              refine lv_aload_n hx hb dX6_bring_84 rfl (lv_at hl 1 rfl) ?_
              refine va_get (D := D) (ci := 7) (C := RX6) (T := TX6) (N := 22) hx hb hts iuX6 hown hK.1 (WW_one hR (f := 0) (i := 0) rfl) 0 rfl rfl 6 (by decide) (hts _ q_814) (fun _ h9 => h9) rfl dX6_bring_85 ?_
              refine lv_iconst (v := 2) hx hb dX6_bring_88 (by decide) ?_
              refine lv_iload_n hx hb dX6_bring_89 rfl (lv_at hl 2 rfl) ?_
              refine lv_imul hx hb dX6_bring_90 ?_
              refine lv_iload_n hx hb dX6_bring_91 rfl (lv_at hl 3 rfl) ?_
              refine lv_iadd hx hb dX6_bring_92 ?_
              refine lv_iload hx hb dX6_bring_93 (lv_at hl 0 rfl) ?_
              refine lv_iload_n hx hb dX6_bring_95 rfl (lv_at hl 4 rfl) ?_
              refine lv_iadd hx hb dX6_bring_96 ?_
              refine ww_iast hx hb hK.1 hR hS 0 (f := 7) (j := 0) rfl rfl rfl g51 dX6_bring_97 (fun H locs hR hS => ?_)
              have hR := HM_row7 0 (((2 * a1) + a2).toNatClampNeg) (x52 + a3) hR
              refine lv_iload_n hx hb dX6_bring_98 rfl (lv_at hl 4 rfl) ?_
              refine lv_if_ge (tgt := 130) hx hb dX6_bring_99 (by decide) (fun c58 => ?_) (fun c58 => ?_)
              · have hf := if_of_pos hf c58
                refine lv_iload hx hb dX6_bring_130 (lv_at hl 0 rfl) ?_
                refine lv_iload_n hx hb dX6_bring_132 rfl (lv_at hl 4 rfl) ?_
                refine lv_iadd hx hb dX6_bring_133 ?_
                cases hf
                exact ret_i hC hR hS dX6_bring_134
              · have hf := if_of_neg hf c58
                refine lv_aload_n hx hb dX6_bring_102 rfl (lv_at hl 1 rfl) ?_
                refine lv_iload_n hx hb dX6_bring_103 rfl (lv_at hl 2 rfl) ?_
                obtain ⟨q59, hcq59, hf⟩ := bd_of hf
                refine kc_l (va_runV (As := [.int a1]) (rest := []) ⟨hx, hb, hml, hown, hts⟩ (mX6_freeOf l D dA ad (pI q49.2 7 0 ((2 * a1) + a2).toNatClampNeg (x52 + a3)) _ a1 q59 hcq59) (cwV 1 hts gX6_114 rfl rfl rfl (by decide +kernel) ⟨Nat.le_of_ble_eq_true rfl, Nat.le_of_ble_eq_true rfl⟩) (preV_of hR hK (f := 0) (i := 0) rfl rfl rfl _) rfl rfl hl.1 rfl (lv_room (Nat.le_of_ble_eq_true rfl)) dX6_bring_104 ⟨Nat.zero_le _, Nat.zero_le _⟩) hA hR hS (fun H locs hR hS => ?_)
                refine lv_lconst (v := 0) hx hb dX6_bring_107 (by decide) ?_
                refine W.lcmp hx hb dX6_bring_108 ?_
                refine lv_if_ge (tgt := 130) hx hb dX6_bring_109 (by decide) (fun c600 => ?_) (fun c600 => ?_)
                · have c60 : 0 ≤ q59 := (lg_cmp_ge _ _).mp c600
                  have hf := if_of_pos hf c60
                  refine lv_iload hx hb dX6_bring_130 (lv_at hl 0 rfl) ?_
                  refine lv_iload_n hx hb dX6_bring_132 rfl (lv_at hl 4 rfl) ?_
                  refine lv_iadd hx hb dX6_bring_133 ?_
                  cases hf
                  exact ret_i hC hR hS dX6_bring_134
                · have c60 : ¬ (0 ≤ q59) := fun q => c600 ((lg_cmp_ge _ _).mpr q)
                  have hf := if_of_neg hf c60
                  refine lv_aload_n hx hb dX6_bring_112 rfl (lv_at hl 1 rfl) ?_
                  refine va_get (D := D) (ci := 7) (C := RX6) (T := TX6) (N := 22) hx hb hts iuX6 hown hK.1 (WW_one hR (f := 0) (i := 0) rfl) 0 rfl rfl 6 (by decide) (hts _ q_814) (fun _ h9 => h9) rfl dX6_bring_113 ?_
                  refine lv_iconst (v := 2) hx hb dX6_bring_116 (by decide) ?_
                  refine lv_iload_n hx hb dX6_bring_117 rfl (lv_at hl 2 rfl) ?_
                  refine lv_imul hx hb dX6_bring_118 ?_
                  refine lv_iload_n hx hb dX6_bring_119 rfl (lv_at hl 3 rfl) ?_
                  refine lv_iadd hx hb dX6_bring_120 ?_
                  refine lv_iload hx hb dX6_bring_121 (lv_at hl 0 rfl) ?_
                  refine ww_iast hx hb hK.1 hR hS 0 (f := 7) (j := 0) rfl rfl rfl g51 dX6_bring_123 (fun H locs hR hS => ?_)
                  have hR := HM_row7 0 (((2 * a1) + a2).toNatClampNeg) x52 hR
                  refine lv_aload_n hx hb dX6_bring_124 rfl (lv_at hl 1 rfl) ?_
                  refine lv_iconst (v := 2) hx hb dX6_bring_125 (by decide) ?_
                  obtain ⟨q61, hcq61, hf⟩ := bd_of hf
                  refine kc_i (va_runV (As := [.int 2]) (rest := []) ⟨hx, hb, hml, hown, hts⟩ (mX6_fails l D dA ad (pI (pI q49.2 7 0 ((2 * a1) + a2).toNatClampNeg (x52 + a3)) 7 0 ((2 * a1) + a2).toNatClampNeg x52) _ 2 q61.1 q61.2 hcq61) (cwV 1 hts gX6_117 rfl rfl rfl (by decide +kernel) ⟨Nat.le_of_ble_eq_true rfl, Nat.le_of_ble_eq_true rfl⟩) (preV_of hR hK (f := 0) (i := 0) rfl rfl rfl _) rfl rfl hl.1 rfl (lv_room (Nat.le_of_ble_eq_true rfl)) dX6_bring_126 ⟨Nat.zero_le _, Nat.zero_le _⟩) hA hR hS (fun H locs hR hS => ?_)
                  cases hf
                  exact ret_i hC hR hS dX6_bring_129
            · have hf := if_of_neg hf (fun q => q c57)
              refine lv_aload_n hx hb dX6_bring_78 rfl (lv_at hl 1 rfl) ?_
              refine lv_iconst (v := 2) hx hb dX6_bring_79 (by decide) ?_
              obtain ⟨q62, hcq62, hf⟩ := bd_of hf
              refine kc_i (va_runV (As := [.int 2]) (rest := []) ⟨hx, hb, hml, hown, hts⟩ (mX6_fails l D dA ad q49.2 _ 2 q62.1 q62.2 hcq62) (cwV 1 hts gX6_117 rfl rfl rfl (by decide +kernel) ⟨Nat.le_of_ble_eq_true rfl, Nat.le_of_ble_eq_true rfl⟩) (preV_of hR hK (f := 0) (i := 0) rfl rfl rfl _) rfl rfl hl.1 rfl (lv_room (Nat.le_of_ble_eq_true rfl)) dX6_bring_80 ⟨Nat.zero_le _, Nat.zero_le _⟩) hA hR hS (fun H locs hR hS => ?_)
              cases hf
              exact ret_i hC hR hS dX6_bring_83
        · have hf := if_of_neg hf (fun q => q c50)
          refine lv_iconst (v := 0) hx hb dX6_bring_41 (by decide) ?_
          cases hf
          exact ret_i hC hR hS dX6_bring_42
def fX6_contribute (σ : St) (a1 : Int32) (a2 : Int32) : Option (Int32 × St) := bd (fX6_isMember σ a1) (fun q1 => if q1 = 0 then bd (fX6_asks σ 0) (fun q3 => if ¬ q3.1 = 0 then gd (vin a1 5) (if (gI q3.2 10 0 a1.toNatClampNeg) = 0 then some ((Int64.toInt32 (gL (pL q3.2 8 0 a1.toNatClampNeg ((gL q3.2 8 0 a1.toNatClampNeg) + (Int32.toInt64 a2))) 8 0 a1.toNatClampNeg), pL q3.2 8 0 a1.toNatClampNeg ((gL q3.2 8 0 a1.toNatClampNeg) + (Int32.toInt64 a2)))) else bd (fX6_fails q3.2 2) (fun q7 => some ((q7.1, q7.2)))) else some ((0, q3.2))) else bd (fX6_in σ a2 1 100000) (fun q8 => if q8 = 0 then bd (fX6_asks σ 0) (fun q10 => if ¬ q10.1 = 0 then gd (vin a1 5) (if (gI q10.2 10 0 a1.toNatClampNeg) = 0 then some ((Int64.toInt32 (gL (pL q10.2 8 0 a1.toNatClampNeg ((gL q10.2 8 0 a1.toNatClampNeg) + (Int32.toInt64 a2))) 8 0 a1.toNatClampNeg), pL q10.2 8 0 a1.toNatClampNeg ((gL q10.2 8 0 a1.toNatClampNeg) + (Int32.toInt64 a2)))) else bd (fX6_fails q10.2 2) (fun q14 => some ((q14.1, q14.2)))) else some ((0, q10.2))) else bd (fX6_asks σ 1) (fun q15 => if ¬ q15.1 = 0 then gd (vin a1 5) (if (gI q15.2 10 0 a1.toNatClampNeg) = 0 then some ((Int64.toInt32 (gL (pL q15.2 8 0 a1.toNatClampNeg ((gL q15.2 8 0 a1.toNatClampNeg) + (Int32.toInt64 a2))) 8 0 a1.toNatClampNeg), pL q15.2 8 0 a1.toNatClampNeg ((gL q15.2 8 0 a1.toNatClampNeg) + (Int32.toInt64 a2)))) else bd (fX6_fails q15.2 2) (fun q19 => some ((q19.1, q19.2)))) else some ((0, q15.2)))))
set_option maxHeartbeats 4000000 in
set_option maxRecDepth 100000 in
theorem mX6_contribute (l : Launch) (D : va_G) (dA : Nat → ClassId) (ad : Nat → Nat → Nat) (σ : St) (sz : Nat) (a1 : Int32) (a2 : Int32) (r : Int32) (σ' : St) (hf : fX6_contribute σ a1 a2 = some (r, σ')) : Met l yX6_contribute (WSy yX6_contribute cX6_contribute 3 (some .int)) ({ frames := 1, cells := 0, slots := 0, locals := 22 } : Room) (va_Pc [.ref (ad 0 0), .int a1, .int a2] (fun U => U.heap.size = sz ∧ HM D dA (fun _ => True) ad σ U.heap ∧ KS D dA U)) (va_Qi (fun (x : Int32) (_ : Unit) => x = r) (fun _ t => HM D dA (WA ad (cvM σ) sz) ad σ' t.heap) (WA ad (cvM σ) sz)) 0 0 (WA ad (cvM σ) sz) := by
  refine met_of (by decide) (Nat.le_of_ble_eq_true rfl) ?_
  intro p e s m below meth c ls hC hB hl
  obtain ⟨rfl, hR, hK⟩ := hB
  have hA : ∀ q : Nat, s.heap.size ≤ q → WA ad (cvM σ) s.heap.size q := fun q h => Or.inr h
  have hR := WW_fit (B := WA ad (cvM σ) s.heap.size) hR (fun f i h => WA_in h)
  have hS : va_S (WA ad (cvM σ) s.heap.size) s.heap s.heap [] := va_S.rf
  generalize WA ad (cvM σ) s.heap.size = A0 at hA hR hS ⊢
  have hC : CTX p s m _ meth c cX6_contribute 3 RX6 (some .int) := hC
  obtain ⟨hx, hb, hml, hown, hts, hr, hlk⟩ := id hC
  have hl : lv_has ls 3 [(0, .ref (ad 0 0)), (1, .int a1), (2, .int a2)] := hl
  unfold fX6_contribute at hf
  refine lv_aload_n hx hb dX6_contribute_0 rfl (lv_at hl 0 rfl) ?_
  refine lv_iload_n hx hb dX6_contribute_1 rfl (lv_at hl 1 rfl) ?_
  obtain ⟨q1, hcq1, hf⟩ := bd_of hf
  refine kc_i (va_runS (As := [.int a1]) (rest := [.ref (ad 0 0)]) ⟨hx, hb, hml, hown, hts⟩ (mX6_isMember l D dA ad σ _ a1 q1 hcq1) (va_cwS 1 hts gX6_109 rfl rfl rfl (by decide +kernel) ⟨Nat.le_of_ble_eq_true rfl, Nat.le_of_ble_eq_true rfl⟩) (preS_of hR hK _) rfl rfl hl.1 rfl (lv_room (Nat.le_of_ble_eq_true rfl)) dX6_contribute_2 ⟨Nat.zero_le _, Nat.zero_le _⟩) hA hR hS (fun H locs hR hS => ?_)
  refine lv_if_eq (tgt := 22) hx hb dX6_contribute_5 (by decide) (fun c2 => ?_) (fun c2 => ?_)
  · have hf := if_of_pos hf c2
    refine lv_iconst (v := 0) hx hb dX6_contribute_22 (by decide) ?_
    obtain ⟨q3, hcq3, hf⟩ := bd_of hf
    refine kc_i (va_runV (As := [.int 0]) (rest := []) ⟨hx, hb, hml, hown, hts⟩ (mX6_asks l D dA ad σ _ 0 q3.1 q3.2 hcq3) (cwV 1 hts gX6_78 rfl rfl rfl (by decide +kernel) ⟨Nat.le_of_ble_eq_true rfl, Nat.le_of_ble_eq_true rfl⟩) (preV_of hR hK (f := 0) (i := 0) rfl rfl rfl _) rfl rfl hl.1 rfl (lv_room (Nat.le_of_ble_eq_true rfl)) dX6_contribute_23 ⟨Nat.zero_le _, Nat.zero_le _⟩) hA hR hS (fun H locs hR hS => ?_)
    refine lv_if_ne (tgt := 31) hx hb dX6_contribute_26 (by decide) (fun c4 => ?_) (fun c4 => ?_)
    · have hf := if_of_pos hf c4
      refine lv_aload_n hx hb dX6_contribute_31 rfl (lv_at hl 0 rfl) ?_
      refine va_get (D := D) (ci := 7) (C := RX6) (T := TX6) (N := 22) hx hb hts iuX6 hown hK.1 (WW_one hR (f := 0) (i := 0) rfl) 0 rfl rfl 9 (by decide) (hts _ q_817) (fun _ h9 => h9) rfl dX6_contribute_32 ?_
      refine lv_iload_n hx hb dX6_contribute_35 rfl (lv_at hl 1 rfl) ?_
      obtain ⟨g5, hf⟩ := gd_of hf
      refine va_zald hx hb hK.1 (WW_one hR (f := 10) (i := 0) rfl) 0 2 rfl rfl g5 dX6_contribute_36 ?_
      refine lv_if_eq (tgt := 46) hx hb dX6_contribute_37 (by decide) (fun c6 => ?_) (fun c6 => ?_)
      · have hf := if_of_pos hf c6
        refine lv_aload_n hx hb dX6_contribute_46 rfl (lv_at hl 0 rfl) ?_
        refine va_get (D := D) (ci := 7) (C := RX6) (T := TX6) (N := 22) hx hb hts iuX6 hown hK.1 (WW_one hR (f := 0) (i := 0) rfl) 0 rfl rfl 7 (by decide) (hts _ q_815) (fun _ h9 => h9) rfl dX6_contribute_47 ?_
        refine lv_iload_n hx hb dX6_contribute_50 rfl (lv_at hl 1 rfl) ?_
        refine lv_dup2_11 hx hb dX6_contribute_51 rfl rfl ?_
        refine va_lald hx hb hK.1 (WW_one hR (f := 8) (i := 0) rfl) 0 1 rfl rfl g5 dX6_contribute_52 ?_
        refine lv_iload_n hx hb dX6_contribute_53 rfl (lv_at hl 2 rfl) ?_
        refine lv_i2l hx hb dX6_contribute_54 rfl ?_
        refine lv_ladd hx hb dX6_contribute_55 ?_
        refine ww_last hx hb hK.1 hR hS 1 (f := 8) (j := 0) rfl rfl rfl g5 dX6_contribute_56 (fun H locs hR hS => ?_)
        have hR := HM_row8 0 (a1.toNatClampNeg) ((gL q3.2 8 0 a1.toNatClampNeg) + (Int32.toInt64 a2)) hR
        refine lv_aload_n hx hb dX6_contribute_57 rfl (lv_at hl 0 rfl) ?_
        refine va_get (D := D) (ci := 7) (C := RX6) (T := TX6) (N := 22) hx hb hts iuX6 hown hK.1 (WW_one hR (f := 0) (i := 0) rfl) 0 rfl rfl 7 (by decide) (hts _ q_815) (fun _ h9 => h9) rfl dX6_contribute_58 ?_
        refine lv_iload_n hx hb dX6_contribute_61 rfl (lv_at hl 1 rfl) ?_
        refine va_lald hx hb hK.1 (WW_one hR (f := 8) (i := 0) rfl) 0 1 rfl rfl g5 dX6_contribute_62 ?_
        refine lv_l2i hx hb dX6_contribute_63 rfl ?_
        cases hf
        exact ret_i hC hR hS dX6_contribute_64
      · have hf := if_of_neg hf c6
        refine lv_aload_n hx hb dX6_contribute_40 rfl (lv_at hl 0 rfl) ?_
        refine lv_iconst (v := 2) hx hb dX6_contribute_41 (by decide) ?_
        obtain ⟨q7, hcq7, hf⟩ := bd_of hf
        refine kc_i (va_runV (As := [.int 2]) (rest := []) ⟨hx, hb, hml, hown, hts⟩ (mX6_fails l D dA ad q3.2 _ 2 q7.1 q7.2 hcq7) (cwV 1 hts gX6_117 rfl rfl rfl (by decide +kernel) ⟨Nat.le_of_ble_eq_true rfl, Nat.le_of_ble_eq_true rfl⟩) (preV_of hR hK (f := 0) (i := 0) rfl rfl rfl _) rfl rfl hl.1 rfl (lv_room (Nat.le_of_ble_eq_true rfl)) dX6_contribute_42 ⟨Nat.zero_le _, Nat.zero_le _⟩) hA hR hS (fun H locs hR hS => ?_)
        cases hf
        exact ret_i hC hR hS dX6_contribute_45
    · have hf := if_of_neg hf (fun q => q c4)
      refine lv_iconst (v := 0) hx hb dX6_contribute_29 (by decide) ?_
      cases hf
      exact ret_i hC hR hS dX6_contribute_30
  · have hf := if_of_neg hf c2
    refine lv_iload_n hx hb dX6_contribute_8 rfl (lv_at hl 2 rfl) ?_
    refine lv_iconst (v := 1) hx hb dX6_contribute_9 (by decide) ?_
    refine lv_ldc (v := 100000) hx hb hown (hts _ q_914) dX6_contribute_10 ?_
    obtain ⟨q8, hcq8, hf⟩ := bd_of hf
    refine kc_i (va_runS (As := [.int a2, .int 1, .int 100000]) (rest := [.ref (ad 0 0)]) ⟨hx, hb, hml, hown, hts⟩ (mX6_in l D dA ad σ _ a2 1 100000 q8 hcq8) (va_cwS 3 hts gX6_74 rfl rfl rfl (by decide +kernel) ⟨Nat.le_of_ble_eq_true rfl, Nat.le_of_ble_eq_true rfl⟩) (preS_of hR hK _) rfl rfl hl.1 rfl (lv_room (Nat.le_of_ble_eq_true rfl)) dX6_contribute_12 ⟨Nat.zero_le _, Nat.zero_le _⟩) hA hR hS (fun H locs hR hS => ?_)
    refine lv_if_eq (tgt := 22) hx hb dX6_contribute_15 (by decide) (fun c9 => ?_) (fun c9 => ?_)
    · have hf := if_of_pos hf c9
      refine lv_iconst (v := 0) hx hb dX6_contribute_22 (by decide) ?_
      obtain ⟨q10, hcq10, hf⟩ := bd_of hf
      refine kc_i (va_runV (As := [.int 0]) (rest := []) ⟨hx, hb, hml, hown, hts⟩ (mX6_asks l D dA ad σ _ 0 q10.1 q10.2 hcq10) (cwV 1 hts gX6_78 rfl rfl rfl (by decide +kernel) ⟨Nat.le_of_ble_eq_true rfl, Nat.le_of_ble_eq_true rfl⟩) (preV_of hR hK (f := 0) (i := 0) rfl rfl rfl _) rfl rfl hl.1 rfl (lv_room (Nat.le_of_ble_eq_true rfl)) dX6_contribute_23 ⟨Nat.zero_le _, Nat.zero_le _⟩) hA hR hS (fun H locs hR hS => ?_)
      refine lv_if_ne (tgt := 31) hx hb dX6_contribute_26 (by decide) (fun c11 => ?_) (fun c11 => ?_)
      · have hf := if_of_pos hf c11
        refine lv_aload_n hx hb dX6_contribute_31 rfl (lv_at hl 0 rfl) ?_
        refine va_get (D := D) (ci := 7) (C := RX6) (T := TX6) (N := 22) hx hb hts iuX6 hown hK.1 (WW_one hR (f := 0) (i := 0) rfl) 0 rfl rfl 9 (by decide) (hts _ q_817) (fun _ h9 => h9) rfl dX6_contribute_32 ?_
        refine lv_iload_n hx hb dX6_contribute_35 rfl (lv_at hl 1 rfl) ?_
        obtain ⟨g12, hf⟩ := gd_of hf
        refine va_zald hx hb hK.1 (WW_one hR (f := 10) (i := 0) rfl) 0 2 rfl rfl g12 dX6_contribute_36 ?_
        refine lv_if_eq (tgt := 46) hx hb dX6_contribute_37 (by decide) (fun c13 => ?_) (fun c13 => ?_)
        · have hf := if_of_pos hf c13
          refine lv_aload_n hx hb dX6_contribute_46 rfl (lv_at hl 0 rfl) ?_
          refine va_get (D := D) (ci := 7) (C := RX6) (T := TX6) (N := 22) hx hb hts iuX6 hown hK.1 (WW_one hR (f := 0) (i := 0) rfl) 0 rfl rfl 7 (by decide) (hts _ q_815) (fun _ h9 => h9) rfl dX6_contribute_47 ?_
          refine lv_iload_n hx hb dX6_contribute_50 rfl (lv_at hl 1 rfl) ?_
          refine lv_dup2_11 hx hb dX6_contribute_51 rfl rfl ?_
          refine va_lald hx hb hK.1 (WW_one hR (f := 8) (i := 0) rfl) 0 1 rfl rfl g12 dX6_contribute_52 ?_
          refine lv_iload_n hx hb dX6_contribute_53 rfl (lv_at hl 2 rfl) ?_
          refine lv_i2l hx hb dX6_contribute_54 rfl ?_
          refine lv_ladd hx hb dX6_contribute_55 ?_
          refine ww_last hx hb hK.1 hR hS 1 (f := 8) (j := 0) rfl rfl rfl g12 dX6_contribute_56 (fun H locs hR hS => ?_)
          have hR := HM_row8 0 (a1.toNatClampNeg) ((gL q10.2 8 0 a1.toNatClampNeg) + (Int32.toInt64 a2)) hR
          refine lv_aload_n hx hb dX6_contribute_57 rfl (lv_at hl 0 rfl) ?_
          refine va_get (D := D) (ci := 7) (C := RX6) (T := TX6) (N := 22) hx hb hts iuX6 hown hK.1 (WW_one hR (f := 0) (i := 0) rfl) 0 rfl rfl 7 (by decide) (hts _ q_815) (fun _ h9 => h9) rfl dX6_contribute_58 ?_
          refine lv_iload_n hx hb dX6_contribute_61 rfl (lv_at hl 1 rfl) ?_
          refine va_lald hx hb hK.1 (WW_one hR (f := 8) (i := 0) rfl) 0 1 rfl rfl g12 dX6_contribute_62 ?_
          refine lv_l2i hx hb dX6_contribute_63 rfl ?_
          cases hf
          exact ret_i hC hR hS dX6_contribute_64
        · have hf := if_of_neg hf c13
          refine lv_aload_n hx hb dX6_contribute_40 rfl (lv_at hl 0 rfl) ?_
          refine lv_iconst (v := 2) hx hb dX6_contribute_41 (by decide) ?_
          obtain ⟨q14, hcq14, hf⟩ := bd_of hf
          refine kc_i (va_runV (As := [.int 2]) (rest := []) ⟨hx, hb, hml, hown, hts⟩ (mX6_fails l D dA ad q10.2 _ 2 q14.1 q14.2 hcq14) (cwV 1 hts gX6_117 rfl rfl rfl (by decide +kernel) ⟨Nat.le_of_ble_eq_true rfl, Nat.le_of_ble_eq_true rfl⟩) (preV_of hR hK (f := 0) (i := 0) rfl rfl rfl _) rfl rfl hl.1 rfl (lv_room (Nat.le_of_ble_eq_true rfl)) dX6_contribute_42 ⟨Nat.zero_le _, Nat.zero_le _⟩) hA hR hS (fun H locs hR hS => ?_)
          cases hf
          exact ret_i hC hR hS dX6_contribute_45
      · have hf := if_of_neg hf (fun q => q c11)
        refine lv_iconst (v := 0) hx hb dX6_contribute_29 (by decide) ?_
        cases hf
        exact ret_i hC hR hS dX6_contribute_30
    · have hf := if_of_neg hf c9
      refine lv_iconst (v := 1) hx hb dX6_contribute_18 (by decide) ?_
      refine lv_goto (tgt := 23) hx hb dX6_contribute_19 (by decide) ?_
      obtain ⟨q15, hcq15, hf⟩ := bd_of hf
      refine kc_i (va_runV (As := [.int 1]) (rest := []) ⟨hx, hb, hml, hown, hts⟩ (mX6_asks l D dA ad σ _ 1 q15.1 q15.2 hcq15) (cwV 1 hts gX6_78 rfl rfl rfl (by decide +kernel) ⟨Nat.le_of_ble_eq_true rfl, Nat.le_of_ble_eq_true rfl⟩) (preV_of hR hK (f := 0) (i := 0) rfl rfl rfl _) rfl rfl hl.1 rfl (lv_room (Nat.le_of_ble_eq_true rfl)) dX6_contribute_23 ⟨Nat.zero_le _, Nat.zero_le _⟩) hA hR hS (fun H locs hR hS => ?_)
      refine lv_if_ne (tgt := 31) hx hb dX6_contribute_26 (by decide) (fun c16 => ?_) (fun c16 => ?_)
      · have hf := if_of_pos hf c16
        refine lv_aload_n hx hb dX6_contribute_31 rfl (lv_at hl 0 rfl) ?_
        refine va_get (D := D) (ci := 7) (C := RX6) (T := TX6) (N := 22) hx hb hts iuX6 hown hK.1 (WW_one hR (f := 0) (i := 0) rfl) 0 rfl rfl 9 (by decide) (hts _ q_817) (fun _ h9 => h9) rfl dX6_contribute_32 ?_
        refine lv_iload_n hx hb dX6_contribute_35 rfl (lv_at hl 1 rfl) ?_
        obtain ⟨g17, hf⟩ := gd_of hf
        refine va_zald hx hb hK.1 (WW_one hR (f := 10) (i := 0) rfl) 0 2 rfl rfl g17 dX6_contribute_36 ?_
        refine lv_if_eq (tgt := 46) hx hb dX6_contribute_37 (by decide) (fun c18 => ?_) (fun c18 => ?_)
        · have hf := if_of_pos hf c18
          refine lv_aload_n hx hb dX6_contribute_46 rfl (lv_at hl 0 rfl) ?_
          refine va_get (D := D) (ci := 7) (C := RX6) (T := TX6) (N := 22) hx hb hts iuX6 hown hK.1 (WW_one hR (f := 0) (i := 0) rfl) 0 rfl rfl 7 (by decide) (hts _ q_815) (fun _ h9 => h9) rfl dX6_contribute_47 ?_
          refine lv_iload_n hx hb dX6_contribute_50 rfl (lv_at hl 1 rfl) ?_
          refine lv_dup2_11 hx hb dX6_contribute_51 rfl rfl ?_
          refine va_lald hx hb hK.1 (WW_one hR (f := 8) (i := 0) rfl) 0 1 rfl rfl g17 dX6_contribute_52 ?_
          refine lv_iload_n hx hb dX6_contribute_53 rfl (lv_at hl 2 rfl) ?_
          refine lv_i2l hx hb dX6_contribute_54 rfl ?_
          refine lv_ladd hx hb dX6_contribute_55 ?_
          refine ww_last hx hb hK.1 hR hS 1 (f := 8) (j := 0) rfl rfl rfl g17 dX6_contribute_56 (fun H locs hR hS => ?_)
          have hR := HM_row8 0 (a1.toNatClampNeg) ((gL q15.2 8 0 a1.toNatClampNeg) + (Int32.toInt64 a2)) hR
          refine lv_aload_n hx hb dX6_contribute_57 rfl (lv_at hl 0 rfl) ?_
          refine va_get (D := D) (ci := 7) (C := RX6) (T := TX6) (N := 22) hx hb hts iuX6 hown hK.1 (WW_one hR (f := 0) (i := 0) rfl) 0 rfl rfl 7 (by decide) (hts _ q_815) (fun _ h9 => h9) rfl dX6_contribute_58 ?_
          refine lv_iload_n hx hb dX6_contribute_61 rfl (lv_at hl 1 rfl) ?_
          refine va_lald hx hb hK.1 (WW_one hR (f := 8) (i := 0) rfl) 0 1 rfl rfl g17 dX6_contribute_62 ?_
          refine lv_l2i hx hb dX6_contribute_63 rfl ?_
          cases hf
          exact ret_i hC hR hS dX6_contribute_64
        · have hf := if_of_neg hf c18
          refine lv_aload_n hx hb dX6_contribute_40 rfl (lv_at hl 0 rfl) ?_
          refine lv_iconst (v := 2) hx hb dX6_contribute_41 (by decide) ?_
          obtain ⟨q19, hcq19, hf⟩ := bd_of hf
          refine kc_i (va_runV (As := [.int 2]) (rest := []) ⟨hx, hb, hml, hown, hts⟩ (mX6_fails l D dA ad q15.2 _ 2 q19.1 q19.2 hcq19) (cwV 1 hts gX6_117 rfl rfl rfl (by decide +kernel) ⟨Nat.le_of_ble_eq_true rfl, Nat.le_of_ble_eq_true rfl⟩) (preV_of hR hK (f := 0) (i := 0) rfl rfl rfl _) rfl rfl hl.1 rfl (lv_room (Nat.le_of_ble_eq_true rfl)) dX6_contribute_42 ⟨Nat.zero_le _, Nat.zero_le _⟩) hA hR hS (fun H locs hR hS => ?_)
          cases hf
          exact ret_i hC hR hS dX6_contribute_45
      · have hf := if_of_neg hf (fun q => q c16)
        refine lv_iconst (v := 0) hx hb dX6_contribute_29 (by decide) ?_
        cases hf
        exact ret_i hC hR hS dX6_contribute_30
def fX6_trade (σ : St) (a1 : Int32) (a2 : Int32) (a3 : Int32) (a4 : Int32) (a5 : Int32) : Option (St) := gd (vin ((3 * a1) + a3) 15) (gd (vin ((3 * a2) + a3) 15) (some (pI (pL (pL (pI (pI σ 4 0 ((3 * a1) + a3).toNatClampNeg ((gI σ 4 0 ((3 * a1) + a3).toNatClampNeg) + a4)) 4 0 ((3 * a2) + a3).toNatClampNeg ((gI (pI σ 4 0 ((3 * a1) + a3).toNatClampNeg ((gI σ 4 0 ((3 * a1) + a3).toNatClampNeg) + a4)) 4 0 ((3 * a2) + a3).toNatClampNeg) - a4)) 5 0 ((3 * a1) + a3).toNatClampNeg ((gL (pI (pI σ 4 0 ((3 * a1) + a3).toNatClampNeg ((gI σ 4 0 ((3 * a1) + a3).toNatClampNeg) + a4)) 4 0 ((3 * a2) + a3).toNatClampNeg ((gI (pI σ 4 0 ((3 * a1) + a3).toNatClampNeg ((gI σ 4 0 ((3 * a1) + a3).toNatClampNeg) + a4)) 4 0 ((3 * a2) + a3).toNatClampNeg) - a4)) 5 0 ((3 * a1) + a3).toNatClampNeg) + ((Int32.toInt64 a4) * (Int32.toInt64 a5)))) 5 0 ((3 * a2) + a3).toNatClampNeg ((gL (pL (pI (pI σ 4 0 ((3 * a1) + a3).toNatClampNeg ((gI σ 4 0 ((3 * a1) + a3).toNatClampNeg) + a4)) 4 0 ((3 * a2) + a3).toNatClampNeg ((gI (pI σ 4 0 ((3 * a1) + a3).toNatClampNeg ((gI σ 4 0 ((3 * a1) + a3).toNatClampNeg) + a4)) 4 0 ((3 * a2) + a3).toNatClampNeg) - a4)) 5 0 ((3 * a1) + a3).toNatClampNeg ((gL (pI (pI σ 4 0 ((3 * a1) + a3).toNatClampNeg ((gI σ 4 0 ((3 * a1) + a3).toNatClampNeg) + a4)) 4 0 ((3 * a2) + a3).toNatClampNeg ((gI (pI σ 4 0 ((3 * a1) + a3).toNatClampNeg ((gI σ 4 0 ((3 * a1) + a3).toNatClampNeg) + a4)) 4 0 ((3 * a2) + a3).toNatClampNeg) - a4)) 5 0 ((3 * a1) + a3).toNatClampNeg) + ((Int32.toInt64 a4) * (Int32.toInt64 a5)))) 5 0 ((3 * a2) + a3).toNatClampNeg) - ((Int32.toInt64 a4) * (Int32.toInt64 a5)))) 22 0 0 ((gI (pL (pL (pI (pI σ 4 0 ((3 * a1) + a3).toNatClampNeg ((gI σ 4 0 ((3 * a1) + a3).toNatClampNeg) + a4)) 4 0 ((3 * a2) + a3).toNatClampNeg ((gI (pI σ 4 0 ((3 * a1) + a3).toNatClampNeg ((gI σ 4 0 ((3 * a1) + a3).toNatClampNeg) + a4)) 4 0 ((3 * a2) + a3).toNatClampNeg) - a4)) 5 0 ((3 * a1) + a3).toNatClampNeg ((gL (pI (pI σ 4 0 ((3 * a1) + a3).toNatClampNeg ((gI σ 4 0 ((3 * a1) + a3).toNatClampNeg) + a4)) 4 0 ((3 * a2) + a3).toNatClampNeg ((gI (pI σ 4 0 ((3 * a1) + a3).toNatClampNeg ((gI σ 4 0 ((3 * a1) + a3).toNatClampNeg) + a4)) 4 0 ((3 * a2) + a3).toNatClampNeg) - a4)) 5 0 ((3 * a1) + a3).toNatClampNeg) + ((Int32.toInt64 a4) * (Int32.toInt64 a5)))) 5 0 ((3 * a2) + a3).toNatClampNeg ((gL (pL (pI (pI σ 4 0 ((3 * a1) + a3).toNatClampNeg ((gI σ 4 0 ((3 * a1) + a3).toNatClampNeg) + a4)) 4 0 ((3 * a2) + a3).toNatClampNeg ((gI (pI σ 4 0 ((3 * a1) + a3).toNatClampNeg ((gI σ 4 0 ((3 * a1) + a3).toNatClampNeg) + a4)) 4 0 ((3 * a2) + a3).toNatClampNeg) - a4)) 5 0 ((3 * a1) + a3).toNatClampNeg ((gL (pI (pI σ 4 0 ((3 * a1) + a3).toNatClampNeg ((gI σ 4 0 ((3 * a1) + a3).toNatClampNeg) + a4)) 4 0 ((3 * a2) + a3).toNatClampNeg ((gI (pI σ 4 0 ((3 * a1) + a3).toNatClampNeg ((gI σ 4 0 ((3 * a1) + a3).toNatClampNeg) + a4)) 4 0 ((3 * a2) + a3).toNatClampNeg) - a4)) 5 0 ((3 * a1) + a3).toNatClampNeg) + ((Int32.toInt64 a4) * (Int32.toInt64 a5)))) 5 0 ((3 * a2) + a3).toNatClampNeg) - ((Int32.toInt64 a4) * (Int32.toInt64 a5)))) 22 0 0) + 1))))
set_option maxHeartbeats 4000000 in
set_option maxRecDepth 100000 in
theorem mX6_trade (l : Launch) (D : va_G) (dA : Nat → ClassId) (ad : Nat → Nat → Nat) (σ : St) (sz : Nat) (a1 : Int32) (a2 : Int32) (a3 : Int32) (a4 : Int32) (a5 : Int32) (σ' : St) (hf : fX6_trade σ a1 a2 a3 a4 a5 = some σ') : Met l yX6_trade (WSy yX6_trade cX6_trade 6 none) ({ frames := 0, cells := 0, slots := 0, locals := 0 } : Room) (va_Pc [.ref (ad 0 0), .int a1, .int a2, .int a3, .int a4, .int a5] (fun U => U.heap.size = sz ∧ HM D dA (fun _ => True) ad σ U.heap ∧ KS D dA U)) (va_Qv (fun (_ : Unit) => True) (fun _ t => HM D dA (WA ad (cvM σ) sz) ad σ' t.heap) (WA ad (cvM σ) sz)) 0 0 (WA ad (cvM σ) sz) := by
  refine met_of (by decide) (Nat.le_of_ble_eq_true rfl) ?_
  intro p e s m below meth c ls hC hB hl
  obtain ⟨rfl, hR, hK⟩ := hB
  have hA : ∀ q : Nat, s.heap.size ≤ q → WA ad (cvM σ) s.heap.size q := fun q h => Or.inr h
  have hR := WW_fit (B := WA ad (cvM σ) s.heap.size) hR (fun f i h => WA_in h)
  have hS : va_S (WA ad (cvM σ) s.heap.size) s.heap s.heap [] := va_S.rf
  generalize WA ad (cvM σ) s.heap.size = A0 at hA hR hS ⊢
  have hC : CTX p s m _ meth c cX6_trade 6 RX6 none := hC
  obtain ⟨hx, hb, hml, hown, hts, hr, hlk⟩ := id hC
  have hl : lv_has ls 6 [(0, .ref (ad 0 0)), (1, .int a1), (2, .int a2), (3, .int a3), (4, .int a4), (5, .int a5)] := hl
  unfold fX6_trade at hf
  refine lv_aload_n hx hb dX6_trade_0 rfl (lv_at hl 0 rfl) ?_
  refine va_get (D := D) (ci := 7) (C := RX6) (T := TX6) (N := 22) hx hb hts iuX6 hown hK.1 (WW_one hR (f := 0) (i := 0) rfl) 0 rfl rfl 3 (by decide) (hts _ q_811) (fun _ h9 => h9) rfl dX6_trade_1 ?_
  refine lv_iconst (v := 3) hx hb dX6_trade_4 (by decide) ?_
  refine lv_iload_n hx hb dX6_trade_5 rfl (lv_at hl 1 rfl) ?_
  refine lv_imul hx hb dX6_trade_6 ?_
  refine lv_iload_n hx hb dX6_trade_7 rfl (lv_at hl 3 rfl) ?_
  refine lv_iadd hx hb dX6_trade_8 ?_
  refine lv_dup2_11 hx hb dX6_trade_9 rfl rfl ?_
  obtain ⟨g1, hf⟩ := gd_of hf
  refine va_iald hx hb hK.1 (WW_one hR (f := 4) (i := 0) rfl) 0 0 rfl rfl g1 dX6_trade_10 ?_
  refine lv_iload hx hb dX6_trade_11 (lv_at hl 4 rfl) ?_
  refine lv_iadd hx hb dX6_trade_13 ?_
  refine ww_iast hx hb hK.1 hR hS 0 (f := 4) (j := 0) rfl rfl rfl g1 dX6_trade_14 (fun H locs hR hS => ?_)
  have hR := HM_row4 0 (((3 * a1) + a3).toNatClampNeg) ((gI σ 4 0 ((3 * a1) + a3).toNatClampNeg) + a4) hR
  refine lv_aload_n hx hb dX6_trade_15 rfl (lv_at hl 0 rfl) ?_
  refine va_get (D := D) (ci := 7) (C := RX6) (T := TX6) (N := 22) hx hb hts iuX6 hown hK.1 (WW_one hR (f := 0) (i := 0) rfl) 0 rfl rfl 3 (by decide) (hts _ q_811) (fun _ h9 => h9) rfl dX6_trade_16 ?_
  refine lv_iconst (v := 3) hx hb dX6_trade_19 (by decide) ?_
  refine lv_iload_n hx hb dX6_trade_20 rfl (lv_at hl 2 rfl) ?_
  refine lv_imul hx hb dX6_trade_21 ?_
  refine lv_iload_n hx hb dX6_trade_22 rfl (lv_at hl 3 rfl) ?_
  refine lv_iadd hx hb dX6_trade_23 ?_
  refine lv_dup2_11 hx hb dX6_trade_24 rfl rfl ?_
  obtain ⟨g2, hf⟩ := gd_of hf
  refine va_iald hx hb hK.1 (WW_one hR (f := 4) (i := 0) rfl) 0 0 rfl rfl g2 dX6_trade_25 ?_
  refine lv_iload hx hb dX6_trade_26 (lv_at hl 4 rfl) ?_
  refine lv_isub hx hb dX6_trade_28 ?_
  refine ww_iast hx hb hK.1 hR hS 0 (f := 4) (j := 0) rfl rfl rfl g2 dX6_trade_29 (fun H locs hR hS => ?_)
  have hR := HM_row4 0 (((3 * a2) + a3).toNatClampNeg) ((gI (pI σ 4 0 ((3 * a1) + a3).toNatClampNeg ((gI σ 4 0 ((3 * a1) + a3).toNatClampNeg) + a4)) 4 0 ((3 * a2) + a3).toNatClampNeg) - a4) hR
  refine lv_aload_n hx hb dX6_trade_30 rfl (lv_at hl 0 rfl) ?_
  refine va_get (D := D) (ci := 7) (C := RX6) (T := TX6) (N := 22) hx hb hts iuX6 hown hK.1 (WW_one hR (f := 0) (i := 0) rfl) 0 rfl rfl 4 (by decide) (hts _ q_812) (fun _ h9 => h9) rfl dX6_trade_31 ?_
  refine lv_iconst (v := 3) hx hb dX6_trade_34 (by decide) ?_
  refine lv_iload_n hx hb dX6_trade_35 rfl (lv_at hl 1 rfl) ?_
  refine lv_imul hx hb dX6_trade_36 ?_
  refine lv_iload_n hx hb dX6_trade_37 rfl (lv_at hl 3 rfl) ?_
  refine lv_iadd hx hb dX6_trade_38 ?_
  refine lv_dup2_11 hx hb dX6_trade_39 rfl rfl ?_
  refine va_lald hx hb hK.1 (WW_one hR (f := 5) (i := 0) rfl) 0 1 rfl rfl g1 dX6_trade_40 ?_
  refine lv_iload hx hb dX6_trade_41 (lv_at hl 4 rfl) ?_
  refine lv_i2l hx hb dX6_trade_43 rfl ?_
  refine lv_iload hx hb dX6_trade_44 (lv_at hl 5 rfl) ?_
  refine lv_i2l hx hb dX6_trade_46 rfl ?_
  refine lv_lmul hx hb dX6_trade_47 ?_
  refine lv_ladd hx hb dX6_trade_48 ?_
  refine ww_last hx hb hK.1 hR hS 1 (f := 5) (j := 0) rfl rfl rfl g1 dX6_trade_49 (fun H locs hR hS => ?_)
  have hR := HM_row5 0 (((3 * a1) + a3).toNatClampNeg) ((gL (pI (pI σ 4 0 ((3 * a1) + a3).toNatClampNeg ((gI σ 4 0 ((3 * a1) + a3).toNatClampNeg) + a4)) 4 0 ((3 * a2) + a3).toNatClampNeg ((gI (pI σ 4 0 ((3 * a1) + a3).toNatClampNeg ((gI σ 4 0 ((3 * a1) + a3).toNatClampNeg) + a4)) 4 0 ((3 * a2) + a3).toNatClampNeg) - a4)) 5 0 ((3 * a1) + a3).toNatClampNeg) + ((Int32.toInt64 a4) * (Int32.toInt64 a5))) hR
  refine lv_aload_n hx hb dX6_trade_50 rfl (lv_at hl 0 rfl) ?_
  refine va_get (D := D) (ci := 7) (C := RX6) (T := TX6) (N := 22) hx hb hts iuX6 hown hK.1 (WW_one hR (f := 0) (i := 0) rfl) 0 rfl rfl 4 (by decide) (hts _ q_812) (fun _ h9 => h9) rfl dX6_trade_51 ?_
  refine lv_iconst (v := 3) hx hb dX6_trade_54 (by decide) ?_
  refine lv_iload_n hx hb dX6_trade_55 rfl (lv_at hl 2 rfl) ?_
  refine lv_imul hx hb dX6_trade_56 ?_
  refine lv_iload_n hx hb dX6_trade_57 rfl (lv_at hl 3 rfl) ?_
  refine lv_iadd hx hb dX6_trade_58 ?_
  refine lv_dup2_11 hx hb dX6_trade_59 rfl rfl ?_
  refine va_lald hx hb hK.1 (WW_one hR (f := 5) (i := 0) rfl) 0 1 rfl rfl g2 dX6_trade_60 ?_
  refine lv_iload hx hb dX6_trade_61 (lv_at hl 4 rfl) ?_
  refine lv_i2l hx hb dX6_trade_63 rfl ?_
  refine lv_iload hx hb dX6_trade_64 (lv_at hl 5 rfl) ?_
  refine lv_i2l hx hb dX6_trade_66 rfl ?_
  refine lv_lmul hx hb dX6_trade_67 ?_
  refine lv_lsub hx hb dX6_trade_68 ?_
  refine ww_last hx hb hK.1 hR hS 1 (f := 5) (j := 0) rfl rfl rfl g2 dX6_trade_69 (fun H locs hR hS => ?_)
  have hR := HM_row5 0 (((3 * a2) + a3).toNatClampNeg) ((gL (pL (pI (pI σ 4 0 ((3 * a1) + a3).toNatClampNeg ((gI σ 4 0 ((3 * a1) + a3).toNatClampNeg) + a4)) 4 0 ((3 * a2) + a3).toNatClampNeg ((gI (pI σ 4 0 ((3 * a1) + a3).toNatClampNeg ((gI σ 4 0 ((3 * a1) + a3).toNatClampNeg) + a4)) 4 0 ((3 * a2) + a3).toNatClampNeg) - a4)) 5 0 ((3 * a1) + a3).toNatClampNeg ((gL (pI (pI σ 4 0 ((3 * a1) + a3).toNatClampNeg ((gI σ 4 0 ((3 * a1) + a3).toNatClampNeg) + a4)) 4 0 ((3 * a2) + a3).toNatClampNeg ((gI (pI σ 4 0 ((3 * a1) + a3).toNatClampNeg ((gI σ 4 0 ((3 * a1) + a3).toNatClampNeg) + a4)) 4 0 ((3 * a2) + a3).toNatClampNeg) - a4)) 5 0 ((3 * a1) + a3).toNatClampNeg) + ((Int32.toInt64 a4) * (Int32.toInt64 a5)))) 5 0 ((3 * a2) + a3).toNatClampNeg) - ((Int32.toInt64 a4) * (Int32.toInt64 a5))) hR
  refine lv_aload_n hx hb dX6_trade_70 rfl (lv_at hl 0 rfl) ?_
  refine lv_dup hx hb dX6_trade_71 rfl ?_
  refine va_get (D := D) (ci := 7) (C := RX6) (T := TX6) (N := 22) hx hb hts iuX6 hown hK.1 (WW_one hR (f := 0) (i := 0) rfl) 0 rfl rfl 18 (by decide) (hts _ q_826) (fun _ h9 => h9) rfl dX6_trade_72 ?_
  refine lv_iconst (v := 1) hx hb dX6_trade_75 (by decide) ?_
  refine lv_iadd hx hb dX6_trade_76 ?_
  refine ww_put (D := D) (ci := 7) (C := RX6) (T := TX6) (N := 22) (ty := .int) hx hb hts iuX6 tyX6 tyX6_ok nmX6 hown hK.1 hR hS (f := 0) (i := 0) rfl rfl rfl 18 (by decide) (hts _ q_826) (fun _ h9 => h9) rfl (by decide +kernel) rfl rfl (Nat.le_of_ble_eq_true rfl) dX6_trade_77 (fun H locs hR hS => ?_)
  have hR := HM_model_trades 0 ((gI (pL (pL (pI (pI σ 4 0 ((3 * a1) + a3).toNatClampNeg ((gI σ 4 0 ((3 * a1) + a3).toNatClampNeg) + a4)) 4 0 ((3 * a2) + a3).toNatClampNeg ((gI (pI σ 4 0 ((3 * a1) + a3).toNatClampNeg ((gI σ 4 0 ((3 * a1) + a3).toNatClampNeg) + a4)) 4 0 ((3 * a2) + a3).toNatClampNeg) - a4)) 5 0 ((3 * a1) + a3).toNatClampNeg ((gL (pI (pI σ 4 0 ((3 * a1) + a3).toNatClampNeg ((gI σ 4 0 ((3 * a1) + a3).toNatClampNeg) + a4)) 4 0 ((3 * a2) + a3).toNatClampNeg ((gI (pI σ 4 0 ((3 * a1) + a3).toNatClampNeg ((gI σ 4 0 ((3 * a1) + a3).toNatClampNeg) + a4)) 4 0 ((3 * a2) + a3).toNatClampNeg) - a4)) 5 0 ((3 * a1) + a3).toNatClampNeg) + ((Int32.toInt64 a4) * (Int32.toInt64 a5)))) 5 0 ((3 * a2) + a3).toNatClampNeg ((gL (pL (pI (pI σ 4 0 ((3 * a1) + a3).toNatClampNeg ((gI σ 4 0 ((3 * a1) + a3).toNatClampNeg) + a4)) 4 0 ((3 * a2) + a3).toNatClampNeg ((gI (pI σ 4 0 ((3 * a1) + a3).toNatClampNeg ((gI σ 4 0 ((3 * a1) + a3).toNatClampNeg) + a4)) 4 0 ((3 * a2) + a3).toNatClampNeg) - a4)) 5 0 ((3 * a1) + a3).toNatClampNeg ((gL (pI (pI σ 4 0 ((3 * a1) + a3).toNatClampNeg ((gI σ 4 0 ((3 * a1) + a3).toNatClampNeg) + a4)) 4 0 ((3 * a2) + a3).toNatClampNeg ((gI (pI σ 4 0 ((3 * a1) + a3).toNatClampNeg ((gI σ 4 0 ((3 * a1) + a3).toNatClampNeg) + a4)) 4 0 ((3 * a2) + a3).toNatClampNeg) - a4)) 5 0 ((3 * a1) + a3).toNatClampNeg) + ((Int32.toInt64 a4) * (Int32.toInt64 a5)))) 5 0 ((3 * a2) + a3).toNatClampNeg) - ((Int32.toInt64 a4) * (Int32.toInt64 a5)))) 22 0 0) + 1) hR
  cases hf
  exact ret_v hC hR hS dX6_trade_80
def fX6_matches_L9 : Nat → St → Int32 → Int32 → Int32 → Option (St)
  | 0, _, _, _, _ => none
  | n + 1, σ, v3, v2, v1 => gd (vin v1 100) (if (gI σ 15 0 v1.toNatClampNeg) ≤ 0 then some (σ) else if ¬ v3 = 0 then some (σ) else if ¬ (gI σ 13 0 v1.toNatClampNeg) = 0 then bd (fX6_bestOf σ v2 0) (fun q7 => if q7 = (-1) then fX6_matches_L9 n σ 1 v2 v1 else if (gI σ 13 0 v1.toNatClampNeg) = 0 then gd (vin q7 100) (if (gI σ 14 0 v1.toNatClampNeg) ≤ (gI σ 14 0 q7.toNatClampNeg) then if ¬ (gI σ 11 0 q7.toNatClampNeg) = (gI σ 11 0 v1.toNatClampNeg) then if (gI σ 15 0 v1.toNatClampNeg) ≤ (gI σ 15 0 q7.toNatClampNeg) then kst (gI σ 15 0 v1.toNatClampNeg) (fun x18 => if (gI σ 13 0 v1.toNatClampNeg) = 0 then if (gI σ 13 0 v1.toNatClampNeg) = 0 then bd (fX6_trade σ (gI σ 11 0 q7.toNatClampNeg) (gI σ 11 0 v1.toNatClampNeg) v2 x18 (gI σ 14 0 q7.toNatClampNeg)) (fun q21 => fX6_matches_L9 n (pI (pI q21 15 0 q7.toNatClampNeg ((gI q21 15 0 q7.toNatClampNeg) - x18)) 15 0 v1.toNatClampNeg ((gI (pI q21 15 0 q7.toNatClampNeg ((gI q21 15 0 q7.toNatClampNeg) - x18)) 15 0 v1.toNatClampNeg) - x18)) 0 v2 v1) else bd (fX6_trade σ (gI σ 11 0 q7.toNatClampNeg) (gI σ 11 0 q7.toNatClampNeg) v2 x18 (gI σ 14 0 q7.toNatClampNeg)) (fun q22 => fX6_matches_L9 n (pI (pI q22 15 0 q7.toNatClampNeg ((gI q22 15 0 q7.toNatClampNeg) - x18)) 15 0 v1.toNatClampNeg ((gI (pI q22 15 0 q7.toNatClampNeg ((gI q22 15 0 q7.toNatClampNeg) - x18)) 15 0 v1.toNatClampNeg) - x18)) 0 v2 v1) else if (gI σ 13 0 v1.toNatClampNeg) = 0 then bd (fX6_trade σ (gI σ 11 0 v1.toNatClampNeg) (gI σ 11 0 v1.toNatClampNeg) v2 x18 (gI σ 14 0 q7.toNatClampNeg)) (fun q24 => fX6_matches_L9 n (pI (pI q24 15 0 q7.toNatClampNeg ((gI q24 15 0 q7.toNatClampNeg) - x18)) 15 0 v1.toNatClampNeg ((gI (pI q24 15 0 q7.toNatClampNeg ((gI q24 15 0 q7.toNatClampNeg) - x18)) 15 0 v1.toNatClampNeg) - x18)) 0 v2 v1) else bd (fX6_trade σ (gI σ 11 0 v1.toNatClampNeg) (gI σ 11 0 q7.toNatClampNeg) v2 x18 (gI σ 14 0 q7.toNatClampNeg)) (fun q25 => fX6_matches_L9 n (pI (pI q25 15 0 q7.toNatClampNeg ((gI q25 15 0 q7.toNatClampNeg) - x18)) 15 0 v1.toNatClampNeg ((gI (pI q25 15 0 q7.toNatClampNeg ((gI q25 15 0 q7.toNatClampNeg) - x18)) 15 0 v1.toNatClampNeg) - x18)) 0 v2 v1)) else kst (gI σ 15 0 q7.toNatClampNeg) (fun x26 => if (gI σ 13 0 v1.toNatClampNeg) = 0 then if (gI σ 13 0 v1.toNatClampNeg) = 0 then bd (fX6_trade σ (gI σ 11 0 q7.toNatClampNeg) (gI σ 11 0 v1.toNatClampNeg) v2 x26 (gI σ 14 0 q7.toNatClampNeg)) (fun q29 => fX6_matches_L9 n (pI (pI q29 15 0 q7.toNatClampNeg ((gI q29 15 0 q7.toNatClampNeg) - x26)) 15 0 v1.toNatClampNeg ((gI (pI q29 15 0 q7.toNatClampNeg ((gI q29 15 0 q7.toNatClampNeg) - x26)) 15 0 v1.toNatClampNeg) - x26)) 0 v2 v1) else bd (fX6_trade σ (gI σ 11 0 q7.toNatClampNeg) (gI σ 11 0 q7.toNatClampNeg) v2 x26 (gI σ 14 0 q7.toNatClampNeg)) (fun q30 => fX6_matches_L9 n (pI (pI q30 15 0 q7.toNatClampNeg ((gI q30 15 0 q7.toNatClampNeg) - x26)) 15 0 v1.toNatClampNeg ((gI (pI q30 15 0 q7.toNatClampNeg ((gI q30 15 0 q7.toNatClampNeg) - x26)) 15 0 v1.toNatClampNeg) - x26)) 0 v2 v1) else if (gI σ 13 0 v1.toNatClampNeg) = 0 then bd (fX6_trade σ (gI σ 11 0 v1.toNatClampNeg) (gI σ 11 0 v1.toNatClampNeg) v2 x26 (gI σ 14 0 q7.toNatClampNeg)) (fun q32 => fX6_matches_L9 n (pI (pI q32 15 0 q7.toNatClampNeg ((gI q32 15 0 q7.toNatClampNeg) - x26)) 15 0 v1.toNatClampNeg ((gI (pI q32 15 0 q7.toNatClampNeg ((gI q32 15 0 q7.toNatClampNeg) - x26)) 15 0 v1.toNatClampNeg) - x26)) 0 v2 v1) else bd (fX6_trade σ (gI σ 11 0 v1.toNatClampNeg) (gI σ 11 0 q7.toNatClampNeg) v2 x26 (gI σ 14 0 q7.toNatClampNeg)) (fun q33 => fX6_matches_L9 n (pI (pI q33 15 0 q7.toNatClampNeg ((gI q33 15 0 q7.toNatClampNeg) - x26)) 15 0 v1.toNatClampNeg ((gI (pI q33 15 0 q7.toNatClampNeg ((gI q33 15 0 q7.toNatClampNeg) - x26)) 15 0 v1.toNatClampNeg) - x26)) 0 v2 v1)) else fX6_matches_L9 n (pI σ 15 0 q7.toNatClampNeg 0) 0 v2 v1 else fX6_matches_L9 n σ 1 v2 v1) else gd (vin q7 100) (if (gI σ 14 0 q7.toNatClampNeg) ≤ (gI σ 14 0 v1.toNatClampNeg) then if ¬ (gI σ 11 0 q7.toNatClampNeg) = (gI σ 11 0 v1.toNatClampNeg) then if (gI σ 15 0 v1.toNatClampNeg) ≤ (gI σ 15 0 q7.toNatClampNeg) then kst (gI σ 15 0 v1.toNatClampNeg) (fun x42 => if (gI σ 13 0 v1.toNatClampNeg) = 0 then if (gI σ 13 0 v1.toNatClampNeg) = 0 then bd (fX6_trade σ (gI σ 11 0 q7.toNatClampNeg) (gI σ 11 0 v1.toNatClampNeg) v2 x42 (gI σ 14 0 q7.toNatClampNeg)) (fun q45 => fX6_matches_L9 n (pI (pI q45 15 0 q7.toNatClampNeg ((gI q45 15 0 q7.toNatClampNeg) - x42)) 15 0 v1.toNatClampNeg ((gI (pI q45 15 0 q7.toNatClampNeg ((gI q45 15 0 q7.toNatClampNeg) - x42)) 15 0 v1.toNatClampNeg) - x42)) 0 v2 v1) else bd (fX6_trade σ (gI σ 11 0 q7.toNatClampNeg) (gI σ 11 0 q7.toNatClampNeg) v2 x42 (gI σ 14 0 q7.toNatClampNeg)) (fun q46 => fX6_matches_L9 n (pI (pI q46 15 0 q7.toNatClampNeg ((gI q46 15 0 q7.toNatClampNeg) - x42)) 15 0 v1.toNatClampNeg ((gI (pI q46 15 0 q7.toNatClampNeg ((gI q46 15 0 q7.toNatClampNeg) - x42)) 15 0 v1.toNatClampNeg) - x42)) 0 v2 v1) else if (gI σ 13 0 v1.toNatClampNeg) = 0 then bd (fX6_trade σ (gI σ 11 0 v1.toNatClampNeg) (gI σ 11 0 v1.toNatClampNeg) v2 x42 (gI σ 14 0 q7.toNatClampNeg)) (fun q48 => fX6_matches_L9 n (pI (pI q48 15 0 q7.toNatClampNeg ((gI q48 15 0 q7.toNatClampNeg) - x42)) 15 0 v1.toNatClampNeg ((gI (pI q48 15 0 q7.toNatClampNeg ((gI q48 15 0 q7.toNatClampNeg) - x42)) 15 0 v1.toNatClampNeg) - x42)) 0 v2 v1) else bd (fX6_trade σ (gI σ 11 0 v1.toNatClampNeg) (gI σ 11 0 q7.toNatClampNeg) v2 x42 (gI σ 14 0 q7.toNatClampNeg)) (fun q49 => fX6_matches_L9 n (pI (pI q49 15 0 q7.toNatClampNeg ((gI q49 15 0 q7.toNatClampNeg) - x42)) 15 0 v1.toNatClampNeg ((gI (pI q49 15 0 q7.toNatClampNeg ((gI q49 15 0 q7.toNatClampNeg) - x42)) 15 0 v1.toNatClampNeg) - x42)) 0 v2 v1)) else kst (gI σ 15 0 q7.toNatClampNeg) (fun x50 => if (gI σ 13 0 v1.toNatClampNeg) = 0 then if (gI σ 13 0 v1.toNatClampNeg) = 0 then bd (fX6_trade σ (gI σ 11 0 q7.toNatClampNeg) (gI σ 11 0 v1.toNatClampNeg) v2 x50 (gI σ 14 0 q7.toNatClampNeg)) (fun q53 => fX6_matches_L9 n (pI (pI q53 15 0 q7.toNatClampNeg ((gI q53 15 0 q7.toNatClampNeg) - x50)) 15 0 v1.toNatClampNeg ((gI (pI q53 15 0 q7.toNatClampNeg ((gI q53 15 0 q7.toNatClampNeg) - x50)) 15 0 v1.toNatClampNeg) - x50)) 0 v2 v1) else bd (fX6_trade σ (gI σ 11 0 q7.toNatClampNeg) (gI σ 11 0 q7.toNatClampNeg) v2 x50 (gI σ 14 0 q7.toNatClampNeg)) (fun q54 => fX6_matches_L9 n (pI (pI q54 15 0 q7.toNatClampNeg ((gI q54 15 0 q7.toNatClampNeg) - x50)) 15 0 v1.toNatClampNeg ((gI (pI q54 15 0 q7.toNatClampNeg ((gI q54 15 0 q7.toNatClampNeg) - x50)) 15 0 v1.toNatClampNeg) - x50)) 0 v2 v1) else if (gI σ 13 0 v1.toNatClampNeg) = 0 then bd (fX6_trade σ (gI σ 11 0 v1.toNatClampNeg) (gI σ 11 0 v1.toNatClampNeg) v2 x50 (gI σ 14 0 q7.toNatClampNeg)) (fun q56 => fX6_matches_L9 n (pI (pI q56 15 0 q7.toNatClampNeg ((gI q56 15 0 q7.toNatClampNeg) - x50)) 15 0 v1.toNatClampNeg ((gI (pI q56 15 0 q7.toNatClampNeg ((gI q56 15 0 q7.toNatClampNeg) - x50)) 15 0 v1.toNatClampNeg) - x50)) 0 v2 v1) else bd (fX6_trade σ (gI σ 11 0 v1.toNatClampNeg) (gI σ 11 0 q7.toNatClampNeg) v2 x50 (gI σ 14 0 q7.toNatClampNeg)) (fun q57 => fX6_matches_L9 n (pI (pI q57 15 0 q7.toNatClampNeg ((gI q57 15 0 q7.toNatClampNeg) - x50)) 15 0 v1.toNatClampNeg ((gI (pI q57 15 0 q7.toNatClampNeg ((gI q57 15 0 q7.toNatClampNeg) - x50)) 15 0 v1.toNatClampNeg) - x50)) 0 v2 v1)) else fX6_matches_L9 n (pI σ 15 0 q7.toNatClampNeg 0) 0 v2 v1 else fX6_matches_L9 n σ 1 v2 v1)) else bd (fX6_bestOf σ v2 1) (fun q60 => if q60 = (-1) then fX6_matches_L9 n σ 1 v2 v1 else if (gI σ 13 0 v1.toNatClampNeg) = 0 then gd (vin q60 100) (if (gI σ 14 0 v1.toNatClampNeg) ≤ (gI σ 14 0 q60.toNatClampNeg) then if ¬ (gI σ 11 0 q60.toNatClampNeg) = (gI σ 11 0 v1.toNatClampNeg) then if (gI σ 15 0 v1.toNatClampNeg) ≤ (gI σ 15 0 q60.toNatClampNeg) then kst (gI σ 15 0 v1.toNatClampNeg) (fun x71 => if (gI σ 13 0 v1.toNatClampNeg) = 0 then if (gI σ 13 0 v1.toNatClampNeg) = 0 then bd (fX6_trade σ (gI σ 11 0 q60.toNatClampNeg) (gI σ 11 0 v1.toNatClampNeg) v2 x71 (gI σ 14 0 q60.toNatClampNeg)) (fun q74 => fX6_matches_L9 n (pI (pI q74 15 0 q60.toNatClampNeg ((gI q74 15 0 q60.toNatClampNeg) - x71)) 15 0 v1.toNatClampNeg ((gI (pI q74 15 0 q60.toNatClampNeg ((gI q74 15 0 q60.toNatClampNeg) - x71)) 15 0 v1.toNatClampNeg) - x71)) 0 v2 v1) else bd (fX6_trade σ (gI σ 11 0 q60.toNatClampNeg) (gI σ 11 0 q60.toNatClampNeg) v2 x71 (gI σ 14 0 q60.toNatClampNeg)) (fun q75 => fX6_matches_L9 n (pI (pI q75 15 0 q60.toNatClampNeg ((gI q75 15 0 q60.toNatClampNeg) - x71)) 15 0 v1.toNatClampNeg ((gI (pI q75 15 0 q60.toNatClampNeg ((gI q75 15 0 q60.toNatClampNeg) - x71)) 15 0 v1.toNatClampNeg) - x71)) 0 v2 v1) else if (gI σ 13 0 v1.toNatClampNeg) = 0 then bd (fX6_trade σ (gI σ 11 0 v1.toNatClampNeg) (gI σ 11 0 v1.toNatClampNeg) v2 x71 (gI σ 14 0 q60.toNatClampNeg)) (fun q77 => fX6_matches_L9 n (pI (pI q77 15 0 q60.toNatClampNeg ((gI q77 15 0 q60.toNatClampNeg) - x71)) 15 0 v1.toNatClampNeg ((gI (pI q77 15 0 q60.toNatClampNeg ((gI q77 15 0 q60.toNatClampNeg) - x71)) 15 0 v1.toNatClampNeg) - x71)) 0 v2 v1) else bd (fX6_trade σ (gI σ 11 0 v1.toNatClampNeg) (gI σ 11 0 q60.toNatClampNeg) v2 x71 (gI σ 14 0 q60.toNatClampNeg)) (fun q78 => fX6_matches_L9 n (pI (pI q78 15 0 q60.toNatClampNeg ((gI q78 15 0 q60.toNatClampNeg) - x71)) 15 0 v1.toNatClampNeg ((gI (pI q78 15 0 q60.toNatClampNeg ((gI q78 15 0 q60.toNatClampNeg) - x71)) 15 0 v1.toNatClampNeg) - x71)) 0 v2 v1)) else kst (gI σ 15 0 q60.toNatClampNeg) (fun x79 => if (gI σ 13 0 v1.toNatClampNeg) = 0 then if (gI σ 13 0 v1.toNatClampNeg) = 0 then bd (fX6_trade σ (gI σ 11 0 q60.toNatClampNeg) (gI σ 11 0 v1.toNatClampNeg) v2 x79 (gI σ 14 0 q60.toNatClampNeg)) (fun q82 => fX6_matches_L9 n (pI (pI q82 15 0 q60.toNatClampNeg ((gI q82 15 0 q60.toNatClampNeg) - x79)) 15 0 v1.toNatClampNeg ((gI (pI q82 15 0 q60.toNatClampNeg ((gI q82 15 0 q60.toNatClampNeg) - x79)) 15 0 v1.toNatClampNeg) - x79)) 0 v2 v1) else bd (fX6_trade σ (gI σ 11 0 q60.toNatClampNeg) (gI σ 11 0 q60.toNatClampNeg) v2 x79 (gI σ 14 0 q60.toNatClampNeg)) (fun q83 => fX6_matches_L9 n (pI (pI q83 15 0 q60.toNatClampNeg ((gI q83 15 0 q60.toNatClampNeg) - x79)) 15 0 v1.toNatClampNeg ((gI (pI q83 15 0 q60.toNatClampNeg ((gI q83 15 0 q60.toNatClampNeg) - x79)) 15 0 v1.toNatClampNeg) - x79)) 0 v2 v1) else if (gI σ 13 0 v1.toNatClampNeg) = 0 then bd (fX6_trade σ (gI σ 11 0 v1.toNatClampNeg) (gI σ 11 0 v1.toNatClampNeg) v2 x79 (gI σ 14 0 q60.toNatClampNeg)) (fun q85 => fX6_matches_L9 n (pI (pI q85 15 0 q60.toNatClampNeg ((gI q85 15 0 q60.toNatClampNeg) - x79)) 15 0 v1.toNatClampNeg ((gI (pI q85 15 0 q60.toNatClampNeg ((gI q85 15 0 q60.toNatClampNeg) - x79)) 15 0 v1.toNatClampNeg) - x79)) 0 v2 v1) else bd (fX6_trade σ (gI σ 11 0 v1.toNatClampNeg) (gI σ 11 0 q60.toNatClampNeg) v2 x79 (gI σ 14 0 q60.toNatClampNeg)) (fun q86 => fX6_matches_L9 n (pI (pI q86 15 0 q60.toNatClampNeg ((gI q86 15 0 q60.toNatClampNeg) - x79)) 15 0 v1.toNatClampNeg ((gI (pI q86 15 0 q60.toNatClampNeg ((gI q86 15 0 q60.toNatClampNeg) - x79)) 15 0 v1.toNatClampNeg) - x79)) 0 v2 v1)) else fX6_matches_L9 n (pI σ 15 0 q60.toNatClampNeg 0) 0 v2 v1 else fX6_matches_L9 n σ 1 v2 v1) else gd (vin q60 100) (if (gI σ 14 0 q60.toNatClampNeg) ≤ (gI σ 14 0 v1.toNatClampNeg) then if ¬ (gI σ 11 0 q60.toNatClampNeg) = (gI σ 11 0 v1.toNatClampNeg) then if (gI σ 15 0 v1.toNatClampNeg) ≤ (gI σ 15 0 q60.toNatClampNeg) then kst (gI σ 15 0 v1.toNatClampNeg) (fun x95 => if (gI σ 13 0 v1.toNatClampNeg) = 0 then if (gI σ 13 0 v1.toNatClampNeg) = 0 then bd (fX6_trade σ (gI σ 11 0 q60.toNatClampNeg) (gI σ 11 0 v1.toNatClampNeg) v2 x95 (gI σ 14 0 q60.toNatClampNeg)) (fun q98 => fX6_matches_L9 n (pI (pI q98 15 0 q60.toNatClampNeg ((gI q98 15 0 q60.toNatClampNeg) - x95)) 15 0 v1.toNatClampNeg ((gI (pI q98 15 0 q60.toNatClampNeg ((gI q98 15 0 q60.toNatClampNeg) - x95)) 15 0 v1.toNatClampNeg) - x95)) 0 v2 v1) else bd (fX6_trade σ (gI σ 11 0 q60.toNatClampNeg) (gI σ 11 0 q60.toNatClampNeg) v2 x95 (gI σ 14 0 q60.toNatClampNeg)) (fun q99 => fX6_matches_L9 n (pI (pI q99 15 0 q60.toNatClampNeg ((gI q99 15 0 q60.toNatClampNeg) - x95)) 15 0 v1.toNatClampNeg ((gI (pI q99 15 0 q60.toNatClampNeg ((gI q99 15 0 q60.toNatClampNeg) - x95)) 15 0 v1.toNatClampNeg) - x95)) 0 v2 v1) else if (gI σ 13 0 v1.toNatClampNeg) = 0 then bd (fX6_trade σ (gI σ 11 0 v1.toNatClampNeg) (gI σ 11 0 v1.toNatClampNeg) v2 x95 (gI σ 14 0 q60.toNatClampNeg)) (fun q101 => fX6_matches_L9 n (pI (pI q101 15 0 q60.toNatClampNeg ((gI q101 15 0 q60.toNatClampNeg) - x95)) 15 0 v1.toNatClampNeg ((gI (pI q101 15 0 q60.toNatClampNeg ((gI q101 15 0 q60.toNatClampNeg) - x95)) 15 0 v1.toNatClampNeg) - x95)) 0 v2 v1) else bd (fX6_trade σ (gI σ 11 0 v1.toNatClampNeg) (gI σ 11 0 q60.toNatClampNeg) v2 x95 (gI σ 14 0 q60.toNatClampNeg)) (fun q102 => fX6_matches_L9 n (pI (pI q102 15 0 q60.toNatClampNeg ((gI q102 15 0 q60.toNatClampNeg) - x95)) 15 0 v1.toNatClampNeg ((gI (pI q102 15 0 q60.toNatClampNeg ((gI q102 15 0 q60.toNatClampNeg) - x95)) 15 0 v1.toNatClampNeg) - x95)) 0 v2 v1)) else kst (gI σ 15 0 q60.toNatClampNeg) (fun x103 => if (gI σ 13 0 v1.toNatClampNeg) = 0 then if (gI σ 13 0 v1.toNatClampNeg) = 0 then bd (fX6_trade σ (gI σ 11 0 q60.toNatClampNeg) (gI σ 11 0 v1.toNatClampNeg) v2 x103 (gI σ 14 0 q60.toNatClampNeg)) (fun q106 => fX6_matches_L9 n (pI (pI q106 15 0 q60.toNatClampNeg ((gI q106 15 0 q60.toNatClampNeg) - x103)) 15 0 v1.toNatClampNeg ((gI (pI q106 15 0 q60.toNatClampNeg ((gI q106 15 0 q60.toNatClampNeg) - x103)) 15 0 v1.toNatClampNeg) - x103)) 0 v2 v1) else bd (fX6_trade σ (gI σ 11 0 q60.toNatClampNeg) (gI σ 11 0 q60.toNatClampNeg) v2 x103 (gI σ 14 0 q60.toNatClampNeg)) (fun q107 => fX6_matches_L9 n (pI (pI q107 15 0 q60.toNatClampNeg ((gI q107 15 0 q60.toNatClampNeg) - x103)) 15 0 v1.toNatClampNeg ((gI (pI q107 15 0 q60.toNatClampNeg ((gI q107 15 0 q60.toNatClampNeg) - x103)) 15 0 v1.toNatClampNeg) - x103)) 0 v2 v1) else if (gI σ 13 0 v1.toNatClampNeg) = 0 then bd (fX6_trade σ (gI σ 11 0 v1.toNatClampNeg) (gI σ 11 0 v1.toNatClampNeg) v2 x103 (gI σ 14 0 q60.toNatClampNeg)) (fun q109 => fX6_matches_L9 n (pI (pI q109 15 0 q60.toNatClampNeg ((gI q109 15 0 q60.toNatClampNeg) - x103)) 15 0 v1.toNatClampNeg ((gI (pI q109 15 0 q60.toNatClampNeg ((gI q109 15 0 q60.toNatClampNeg) - x103)) 15 0 v1.toNatClampNeg) - x103)) 0 v2 v1) else bd (fX6_trade σ (gI σ 11 0 v1.toNatClampNeg) (gI σ 11 0 q60.toNatClampNeg) v2 x103 (gI σ 14 0 q60.toNatClampNeg)) (fun q110 => fX6_matches_L9 n (pI (pI q110 15 0 q60.toNatClampNeg ((gI q110 15 0 q60.toNatClampNeg) - x103)) 15 0 v1.toNatClampNeg ((gI (pI q110 15 0 q60.toNatClampNeg ((gI q110 15 0 q60.toNatClampNeg) - x103)) 15 0 v1.toNatClampNeg) - x103)) 0 v2 v1)) else fX6_matches_L9 n (pI σ 15 0 q60.toNatClampNeg 0) 0 v2 v1 else fX6_matches_L9 n σ 1 v2 v1)))
set_option maxHeartbeats 4000000 in
set_option maxRecDepth 100000 in
theorem wX6_matches_L9 {p : Program} {l : Launch} {e : Env} {s : State} {m : MethodId} {args : Array Value} {below : List Frame} {meth : Method} {c : Code} {D : va_G} {dA : Nat → ClassId} {A0 : Nat → Prop} {ad : Nat → Nat → Nat} {σ' : St}  (hC : CTX p s m args meth c cX6_matches 6 RX6 none) (hK : KS D dA s) (hA : ∀ q, s.heap.size ≤ q → A0 q) : ∀ (n : Nat) (H : Heap) (locs : List Loc) (ls : Array Slot) (σ : St) (v3 : Int32) (v2 : Int32) (v1 : Int32), HM D dA A0 ad σ H → va_S A0 s.heap H locs → lv_has ls 6 [(3, .int v3), (2, .int v2), (0, .ref (ad 0 0)), (1, .int v1)] → fX6_matches_L9 n σ v3 v2 v1 = some σ' → W p l e ({ frames := 1, cells := 0, slots := 0, locals := 25 } : Room) s m args below meth c H locs 0 0 (MQ below (va_Qv (fun (_ : Unit) => True) (fun _ t => HM D dA A0 ad σ' t.heap) A0) args s 0 0 A0) (F0 m 9 ls []) := by
  obtain ⟨hx, hb, hml, hown, hts, hr, hlk⟩ := id hC
  intro n
  induction n with
  | zero =>
    intro H locs ls σ v3 v2 v1 hR hS hl hf
    rw [fX6_matches_L9.eq_1] at hf
    cases hf
  | succ n ih =>
    intro H locs ls σ v3 v2 v1 hR hS hl hf
    rw [fX6_matches_L9.eq_2] at hf
    refine lv_aload_n hx hb dX6_matches_9 rfl (lv_at hl 2 rfl) ?_
    refine va_get (D := D) (ci := 7) (C := RX6) (T := TX6) (N := 22) hx hb hts iuX6 hown hK.1 (WW_one hR (f := 0) (i := 0) rfl) 0 rfl rfl 16 (by decide) (hts _ q_824) (fun _ h9 => h9) rfl dX6_matches_10 ?_
    refine lv_iload_n hx hb dX6_matches_13 rfl (lv_at hl 3 rfl) ?_
    obtain ⟨g3, hf⟩ := gd_of hf
    refine va_iald hx hb hK.1 (WW_one hR (f := 15) (i := 0) rfl) 0 0 rfl rfl g3 dX6_matches_14 ?_
    refine lv_if_le (tgt := 258) hx hb dX6_matches_15 (by decide) (fun c4 => ?_) (fun c4 => ?_)
    · have hf := if_of_pos hf c4
      cases hf
      exact ret_v hC hR hS dX6_matches_258
    · have hf := if_of_neg hf c4
      refine lv_iload_n hx hb dX6_matches_18 rfl (lv_at hl 0 rfl) ?_
      refine lv_if_ne (tgt := 258) hx hb dX6_matches_19 (by decide) (fun c5 => ?_) (fun c5 => ?_)
      · have hf := if_of_pos hf c5
        cases hf
        exact ret_v hC hR hS dX6_matches_258
      · have hf := if_of_neg hf (fun q => q c5)
        refine lv_aload_n hx hb dX6_matches_22 rfl (lv_at hl 2 rfl) ?_
        refine lv_iload_n hx hb dX6_matches_23 rfl (lv_at hl 1 rfl) ?_
        refine lv_aload_n hx hb dX6_matches_24 rfl (lv_at hl 2 rfl) ?_
        refine va_get (D := D) (ci := 7) (C := RX6) (T := TX6) (N := 22) hx hb hts iuX6 hown hK.1 (WW_one hR (f := 0) (i := 0) rfl) 0 rfl rfl 14 (by decide) (hts _ q_822) (fun _ h9 => h9) rfl dX6_matches_25 ?_
        refine lv_iload_n hx hb dX6_matches_28 rfl (lv_at hl 3 rfl) ?_
        refine va_zald hx hb hK.1 (WW_one hR (f := 13) (i := 0) rfl) 0 2 rfl rfl g3 dX6_matches_29 ?_
        refine lv_if_ne (tgt := 37) hx hb dX6_matches_30 (by decide) (fun c6 => ?_) (fun c6 => ?_)
        · have hf := if_of_pos hf c6
          refine lv_iconst (v := 0) hx hb dX6_matches_37 (by decide) ?_
          obtain ⟨q7, hcq7, hf⟩ := bd_of hf
          refine kc_i (va_runV (As := [.int v2, .int 0]) (rest := []) ⟨hx, hb, hml, hown, hts⟩ (mX6_bestOf l D dA ad σ _ v2 0 q7 hcq7) (cwV 2 hts gX6_123 rfl rfl rfl (by decide +kernel) ⟨Nat.le_of_ble_eq_true rfl, Nat.le_of_ble_eq_true rfl⟩) (preV_of hR hK (f := 0) (i := 0) rfl rfl rfl _) rfl rfl hl.1 rfl (lv_room (Nat.le_of_ble_eq_true rfl)) dX6_matches_38 ⟨Nat.zero_le _, Nat.zero_le _⟩) hA hR hS (fun H locs hR hS => ?_)
          refine lv_istore (lv' := [(4, .int q7), (3, .int v3), (2, .int v2), (0, .ref (ad 0 0)), (1, .int v1)]) hx hb dX6_matches_41 hl (by decide) rfl (fun ls hl => ?_)
          refine lv_iload hx hb dX6_matches_43 (lv_at hl 0 rfl) ?_
          refine lv_iconst (v := (-1)) hx hb dX6_matches_45 (by decide) ?_
          refine lv_icmp_eq (tgt := 93) hx hb dX6_matches_46 (by decide) (fun c8 => ?_) (fun c8 => ?_)
          · have hf := if_of_pos hf c8
            refine lv_iconst (v := 1) hx hb dX6_matches_93 (by decide) ?_
            refine lv_goto (tgt := 98) hx hb dX6_matches_94 (by decide) ?_
            refine lv_istore_n (lv' := [(3, .int 1), (4, .int q7), (2, .int v2), (0, .ref (ad 0 0)), (1, .int v1)]) hx hb dX6_matches_98 rfl hl (by decide) rfl (fun ls hl => ?_)
            refine lv_iload_n hx hb dX6_matches_99 rfl (lv_at hl 0 rfl) ?_
            refine lv_if_ne (tgt := 130) hx hb dX6_matches_100 (by decide) (fun c9 => ?_) (fun c9 => absurd c9 (by decide))
            refine lv_iload_n hx hb dX6_matches_130 rfl (lv_at hl 0 rfl) ?_
            refine lv_if_ne (tgt := 255) hx hb dX6_matches_131 (by decide) (fun c10 => ?_) (fun c10 => absurd c10 (by decide))
            refine lv_goto (tgt := 9) hx hb dX6_matches_255 (by decide) ?_
            exact ih _ _ _ σ 1 v2 v1 hR hS (lv_sub hl [0, 2, 3, 4] rfl) hf
          · have hf := if_of_neg hf c8
            refine lv_aload_n hx hb dX6_matches_49 rfl (lv_at hl 3 rfl) ?_
            refine va_get (D := D) (ci := 7) (C := RX6) (T := TX6) (N := 22) hx hb hts iuX6 hown hK.1 (WW_one hR (f := 0) (i := 0) rfl) 0 rfl rfl 14 (by decide) (hts _ q_822) (fun _ h9 => h9) rfl dX6_matches_50 ?_
            refine lv_iload_n hx hb dX6_matches_53 rfl (lv_at hl 4 rfl) ?_
            refine va_zald hx hb hK.1 (WW_one hR (f := 13) (i := 0) rfl) 0 2 rfl rfl g3 dX6_matches_54 ?_
            refine lv_if_eq (tgt := 77) hx hb dX6_matches_55 (by decide) (fun c11 => ?_) (fun c11 => ?_)
            · have hf := if_of_pos hf c11
              refine lv_aload_n hx hb dX6_matches_77 rfl (lv_at hl 3 rfl) ?_
              refine va_get (D := D) (ci := 7) (C := RX6) (T := TX6) (N := 22) hx hb hts iuX6 hown hK.1 (WW_one hR (f := 0) (i := 0) rfl) 0 rfl rfl 15 (by decide) (hts _ q_823) (fun _ h9 => h9) rfl dX6_matches_78 ?_
              refine lv_iload hx hb dX6_matches_81 (lv_at hl 0 rfl) ?_
              obtain ⟨g12, hf⟩ := gd_of hf
              refine va_iald hx hb hK.1 (WW_one hR (f := 14) (i := 0) rfl) 0 0 rfl rfl g12 dX6_matches_83 ?_
              refine lv_aload_n hx hb dX6_matches_84 rfl (lv_at hl 3 rfl) ?_
              refine va_get (D := D) (ci := 7) (C := RX6) (T := TX6) (N := 22) hx hb hts iuX6 hown hK.1 (WW_one hR (f := 0) (i := 0) rfl) 0 rfl rfl 15 (by decide) (hts _ q_823) (fun _ h9 => h9) rfl dX6_matches_85 ?_
              refine lv_iload_n hx hb dX6_matches_88 rfl (lv_at hl 4 rfl) ?_
              refine va_iald hx hb hK.1 (WW_one hR (f := 14) (i := 0) rfl) 0 0 rfl rfl g3 dX6_matches_89 ?_
              refine lv_icmp_ge (tgt := 97) hx hb dX6_matches_90 (by decide) (fun c13 => ?_) (fun c13 => ?_)
              · have hf := if_of_pos hf c13
                refine lv_iconst (v := 0) hx hb dX6_matches_97 (by decide) ?_
                refine lv_istore_n (lv' := [(3, .int 0), (4, .int q7), (2, .int v2), (0, .ref (ad 0 0)), (1, .int v1)]) hx hb dX6_matches_98 rfl hl (by decide) rfl (fun ls hl => ?_)
                refine lv_iload_n hx hb dX6_matches_99 rfl (lv_at hl 0 rfl) ?_
                refine lv_if_ne (tgt := 130) hx hb dX6_matches_100 (by decide) (fun c14 => absurd c14 (by decide)) (fun c14 => ?_)
                refine lv_aload_n hx hb dX6_matches_103 rfl (lv_at hl 3 rfl) ?_
                refine va_get (D := D) (ci := 7) (C := RX6) (T := TX6) (N := 22) hx hb hts iuX6 hown hK.1 (WW_one hR (f := 0) (i := 0) rfl) 0 rfl rfl 12 (by decide) (hts _ q_820) (fun _ h9 => h9) rfl dX6_matches_104 ?_
                refine lv_iload hx hb dX6_matches_107 (lv_at hl 1 rfl) ?_
                refine va_iald hx hb hK.1 (WW_one hR (f := 11) (i := 0) rfl) 0 0 rfl rfl g12 dX6_matches_109 ?_
                refine lv_aload_n hx hb dX6_matches_110 rfl (lv_at hl 3 rfl) ?_
                refine va_get (D := D) (ci := 7) (C := RX6) (T := TX6) (N := 22) hx hb hts iuX6 hown hK.1 (WW_one hR (f := 0) (i := 0) rfl) 0 rfl rfl 12 (by decide) (hts _ q_820) (fun _ h9 => h9) rfl dX6_matches_111 ?_
                refine lv_iload_n hx hb dX6_matches_114 rfl (lv_at hl 4 rfl) ?_
                refine va_iald hx hb hK.1 (WW_one hR (f := 11) (i := 0) rfl) 0 0 rfl rfl g3 dX6_matches_115 ?_
                refine lv_icmp_ne (tgt := 130) hx hb dX6_matches_116 (by decide) (fun c15 => ?_) (fun c15 => ?_)
                · have hf := if_of_pos hf c15
                  refine lv_iload_n hx hb dX6_matches_130 rfl (lv_at hl 0 rfl) ?_
                  refine lv_if_ne (tgt := 255) hx hb dX6_matches_131 (by decide) (fun c16 => absurd c16 (by decide)) (fun c16 => ?_)
                  refine lv_aload_n hx hb dX6_matches_134 rfl (lv_at hl 3 rfl) ?_
                  refine va_get (D := D) (ci := 7) (C := RX6) (T := TX6) (N := 22) hx hb hts iuX6 hown hK.1 (WW_one hR (f := 0) (i := 0) rfl) 0 rfl rfl 16 (by decide) (hts _ q_824) (fun _ h9 => h9) rfl dX6_matches_135 ?_
                  refine lv_iload hx hb dX6_matches_138 (lv_at hl 1 rfl) ?_
                  refine va_iald hx hb hK.1 (WW_one hR (f := 15) (i := 0) rfl) 0 0 rfl rfl g12 dX6_matches_140 ?_
                  refine lv_aload_n hx hb dX6_matches_141 rfl (lv_at hl 3 rfl) ?_
                  refine va_get (D := D) (ci := 7) (C := RX6) (T := TX6) (N := 22) hx hb hts iuX6 hown hK.1 (WW_one hR (f := 0) (i := 0) rfl) 0 rfl rfl 16 (by decide) (hts _ q_824) (fun _ h9 => h9) rfl dX6_matches_142 ?_
                  refine lv_iload_n hx hb dX6_matches_145 rfl (lv_at hl 4 rfl) ?_
                  refine va_iald hx hb hK.1 (WW_one hR (f := 15) (i := 0) rfl) 0 0 rfl rfl g3 dX6_matches_146 ?_
                  refine lv_icmp_ge (tgt := 160) hx hb dX6_matches_147 (by decide) (fun c17 => ?_) (fun c17 => ?_)
                  · have hf := if_of_pos hf c17
                    refine lv_aload_n hx hb dX6_matches_160 rfl (lv_at hl 3 rfl) ?_
                    refine va_get (D := D) (ci := 7) (C := RX6) (T := TX6) (N := 22) hx hb hts iuX6 hown hK.1 (WW_one hR (f := 0) (i := 0) rfl) 0 rfl rfl 16 (by decide) (hts _ q_824) (fun _ h9 => h9) rfl dX6_matches_161 ?_
                    refine lv_iload_n hx hb dX6_matches_164 rfl (lv_at hl 4 rfl) ?_
                    refine va_iald hx hb hK.1 (WW_one hR (f := 15) (i := 0) rfl) 0 0 rfl rfl g3 dX6_matches_165 ?_
                    refine lv_topi (fun x18 hx18 => ?_)
                    have hf := kst_eq hx18 hf
                    refine lv_istore (lv' := [(5, .int x18), (3, .int 0), (4, .int q7), (2, .int v2), (0, .ref (ad 0 0)), (1, .int v1)]) hx hb dX6_matches_166 hl (by decide) rfl (fun ls hl => ?_)
                    refine lv_aload_n hx hb dX6_matches_168 rfl (lv_at hl 4 rfl) ?_
                    refine lv_aload_n hx hb dX6_matches_169 rfl (lv_at hl 4 rfl) ?_
                    refine va_get (D := D) (ci := 7) (C := RX6) (T := TX6) (N := 22) hx hb hts iuX6 hown hK.1 (WW_one hR (f := 0) (i := 0) rfl) 0 rfl rfl 14 (by decide) (hts _ q_822) (fun _ h9 => h9) rfl dX6_matches_170 ?_
                    refine lv_iload_n hx hb dX6_matches_173 rfl (lv_at hl 5 rfl) ?_
                    refine va_zald hx hb hK.1 (WW_one hR (f := 13) (i := 0) rfl) 0 2 rfl rfl g3 dX6_matches_174 ?_
                    refine lv_if_eq (tgt := 187) hx hb dX6_matches_175 (by decide) (fun c19 => ?_) (fun c19 => ?_)
                    · have hf := if_of_pos hf c19
                      refine lv_aload_n hx hb dX6_matches_187 rfl (lv_at hl 4 rfl) ?_
                      refine va_get (D := D) (ci := 7) (C := RX6) (T := TX6) (N := 22) hx hb hts iuX6 hown hK.1 (WW_one hR (f := 0) (i := 0) rfl) 0 rfl rfl 12 (by decide) (hts _ q_820) (fun _ h9 => h9) rfl dX6_matches_188 ?_
                      refine lv_iload hx hb dX6_matches_191 (lv_at hl 2 rfl) ?_
                      refine va_iald hx hb hK.1 (WW_one hR (f := 11) (i := 0) rfl) 0 0 rfl rfl g12 dX6_matches_193 ?_
                      refine lv_aload_n hx hb dX6_matches_194 rfl (lv_at hl 4 rfl) ?_
                      refine va_get (D := D) (ci := 7) (C := RX6) (T := TX6) (N := 22) hx hb hts iuX6 hown hK.1 (WW_one hR (f := 0) (i := 0) rfl) 0 rfl rfl 14 (by decide) (hts _ q_822) (fun _ h9 => h9) rfl dX6_matches_195 ?_
                      refine lv_iload_n hx hb dX6_matches_198 rfl (lv_at hl 5 rfl) ?_
                      refine va_zald hx hb hK.1 (WW_one hR (f := 13) (i := 0) rfl) 0 2 rfl rfl g3 dX6_matches_199 ?_
                      refine lv_if_eq (tgt := 213) hx hb dX6_matches_200 (by decide) (fun c20 => ?_) (fun c20 => ?_)
                      · have hf := if_of_pos hf c20
                        refine lv_aload_n hx hb dX6_matches_213 rfl (lv_at hl 4 rfl) ?_
                        refine va_get (D := D) (ci := 7) (C := RX6) (T := TX6) (N := 22) hx hb hts iuX6 hown hK.1 (WW_one hR (f := 0) (i := 0) rfl) 0 rfl rfl 12 (by decide) (hts _ q_820) (fun _ h9 => h9) rfl dX6_matches_214 ?_
                        refine lv_iload_n hx hb dX6_matches_217 rfl (lv_at hl 5 rfl) ?_
                        refine va_iald hx hb hK.1 (WW_one hR (f := 11) (i := 0) rfl) 0 0 rfl rfl g3 dX6_matches_218 ?_
                        refine lv_iload_n hx hb dX6_matches_219 rfl (lv_at hl 3 rfl) ?_
                        refine lv_iload hx hb dX6_matches_220 (lv_at hl 0 rfl) ?_
                        refine lv_aload_n hx hb dX6_matches_222 rfl (lv_at hl 4 rfl) ?_
                        refine va_get (D := D) (ci := 7) (C := RX6) (T := TX6) (N := 22) hx hb hts iuX6 hown hK.1 (WW_one hR (f := 0) (i := 0) rfl) 0 rfl rfl 15 (by decide) (hts _ q_823) (fun _ h9 => h9) rfl dX6_matches_223 ?_
                        refine lv_iload hx hb dX6_matches_226 (lv_at hl 2 rfl) ?_
                        refine va_iald hx hb hK.1 (WW_one hR (f := 14) (i := 0) rfl) 0 0 rfl rfl g12 dX6_matches_228 ?_
                        obtain ⟨q21, hcq21, hf⟩ := bd_of hf
                        refine kc_v (va_runV (As := [.int (gI σ 11 0 q7.toNatClampNeg), .int (gI σ 11 0 v1.toNatClampNeg), .int v2, .int x18, .int (gI σ 14 0 q7.toNatClampNeg)]) (rest := []) ⟨hx, hb, hml, hown, hts⟩ (mX6_trade l D dA ad σ _ (gI σ 11 0 q7.toNatClampNeg) (gI σ 11 0 v1.toNatClampNeg) v2 x18 (gI σ 14 0 q7.toNatClampNeg) q21 hcq21) (cwV 5 hts gX6_127 rfl rfl rfl (by decide +kernel) ⟨Nat.le_of_ble_eq_true rfl, Nat.le_of_ble_eq_true rfl⟩) (preV_of hR hK (f := 0) (i := 0) rfl rfl rfl _) rfl rfl hl.1 rfl (lv_room (Nat.le_of_ble_eq_true rfl)) dX6_matches_229 ⟨Nat.zero_le _, Nat.zero_le _⟩) hA hR hS (fun H locs hR hS => ?_)
                        refine lv_aload_n hx hb dX6_matches_232 rfl (lv_at hl 4 rfl) ?_
                        refine va_get (D := D) (ci := 7) (C := RX6) (T := TX6) (N := 22) hx hb hts iuX6 hown hK.1 (WW_one hR (f := 0) (i := 0) rfl) 0 rfl rfl 16 (by decide) (hts _ q_824) (fun _ h9 => h9) rfl dX6_matches_233 ?_
                        refine lv_iload hx hb dX6_matches_236 (lv_at hl 2 rfl) ?_
                        refine lv_dup2_11 hx hb dX6_matches_238 rfl rfl ?_
                        refine va_iald hx hb hK.1 (WW_one hR (f := 15) (i := 0) rfl) 0 0 rfl rfl g12 dX6_matches_239 ?_
                        refine lv_iload hx hb dX6_matches_240 (lv_at hl 0 rfl) ?_
                        refine lv_isub hx hb dX6_matches_242 ?_
                        refine ww_iast hx hb hK.1 hR hS 0 (f := 15) (j := 0) rfl rfl rfl g12 dX6_matches_243 (fun H locs hR hS => ?_)
                        have hR := HM_row15 0 (q7.toNatClampNeg) ((gI q21 15 0 q7.toNatClampNeg) - x18) hR
                        refine lv_aload_n hx hb dX6_matches_244 rfl (lv_at hl 4 rfl) ?_
                        refine va_get (D := D) (ci := 7) (C := RX6) (T := TX6) (N := 22) hx hb hts iuX6 hown hK.1 (WW_one hR (f := 0) (i := 0) rfl) 0 rfl rfl 16 (by decide) (hts _ q_824) (fun _ h9 => h9) rfl dX6_matches_245 ?_
                        refine lv_iload_n hx hb dX6_matches_248 rfl (lv_at hl 5 rfl) ?_
                        refine lv_dup2_11 hx hb dX6_matches_249 rfl rfl ?_
                        refine va_iald hx hb hK.1 (WW_one hR (f := 15) (i := 0) rfl) 0 0 rfl rfl g3 dX6_matches_250 ?_
                        refine lv_iload hx hb dX6_matches_251 (lv_at hl 0 rfl) ?_
                        refine lv_isub hx hb dX6_matches_253 ?_
                        refine ww_iast hx hb hK.1 hR hS 0 (f := 15) (j := 0) rfl rfl rfl g3 dX6_matches_254 (fun H locs hR hS => ?_)
                        have hR := HM_row15 0 (v1.toNatClampNeg) ((gI (pI q21 15 0 q7.toNatClampNeg ((gI q21 15 0 q7.toNatClampNeg) - x18)) 15 0 v1.toNatClampNeg) - x18) hR
                        refine lv_goto (tgt := 9) hx hb dX6_matches_255 (by decide) ?_
                        exact ih _ _ _ (pI (pI q21 15 0 q7.toNatClampNeg ((gI q21 15 0 q7.toNatClampNeg) - x18)) 15 0 v1.toNatClampNeg ((gI (pI q21 15 0 q7.toNatClampNeg ((gI q21 15 0 q7.toNatClampNeg) - x18)) 15 0 v1.toNatClampNeg) - x18)) 0 v2 v1 hR hS (lv_sub hl [1, 3, 4, 5] rfl) hf
                      · have hf := if_of_neg hf c20
                        refine lv_aload_n hx hb dX6_matches_203 rfl (lv_at hl 4 rfl) ?_
                        refine va_get (D := D) (ci := 7) (C := RX6) (T := TX6) (N := 22) hx hb hts iuX6 hown hK.1 (WW_one hR (f := 0) (i := 0) rfl) 0 rfl rfl 12 (by decide) (hts _ q_820) (fun _ h9 => h9) rfl dX6_matches_204 ?_
                        refine lv_iload hx hb dX6_matches_207 (lv_at hl 2 rfl) ?_
                        refine va_iald hx hb hK.1 (WW_one hR (f := 11) (i := 0) rfl) 0 0 rfl rfl g12 dX6_matches_209 ?_
                        refine lv_goto (tgt := 219) hx hb dX6_matches_210 (by decide) ?_
                        refine lv_iload_n hx hb dX6_matches_219 rfl (lv_at hl 3 rfl) ?_
                        refine lv_iload hx hb dX6_matches_220 (lv_at hl 0 rfl) ?_
                        refine lv_aload_n hx hb dX6_matches_222 rfl (lv_at hl 4 rfl) ?_
                        refine va_get (D := D) (ci := 7) (C := RX6) (T := TX6) (N := 22) hx hb hts iuX6 hown hK.1 (WW_one hR (f := 0) (i := 0) rfl) 0 rfl rfl 15 (by decide) (hts _ q_823) (fun _ h9 => h9) rfl dX6_matches_223 ?_
                        refine lv_iload hx hb dX6_matches_226 (lv_at hl 2 rfl) ?_
                        refine va_iald hx hb hK.1 (WW_one hR (f := 14) (i := 0) rfl) 0 0 rfl rfl g12 dX6_matches_228 ?_
                        obtain ⟨q22, hcq22, hf⟩ := bd_of hf
                        refine kc_v (va_runV (As := [.int (gI σ 11 0 q7.toNatClampNeg), .int (gI σ 11 0 q7.toNatClampNeg), .int v2, .int x18, .int (gI σ 14 0 q7.toNatClampNeg)]) (rest := []) ⟨hx, hb, hml, hown, hts⟩ (mX6_trade l D dA ad σ _ (gI σ 11 0 q7.toNatClampNeg) (gI σ 11 0 q7.toNatClampNeg) v2 x18 (gI σ 14 0 q7.toNatClampNeg) q22 hcq22) (cwV 5 hts gX6_127 rfl rfl rfl (by decide +kernel) ⟨Nat.le_of_ble_eq_true rfl, Nat.le_of_ble_eq_true rfl⟩) (preV_of hR hK (f := 0) (i := 0) rfl rfl rfl _) rfl rfl hl.1 rfl (lv_room (Nat.le_of_ble_eq_true rfl)) dX6_matches_229 ⟨Nat.zero_le _, Nat.zero_le _⟩) hA hR hS (fun H locs hR hS => ?_)
                        refine lv_aload_n hx hb dX6_matches_232 rfl (lv_at hl 4 rfl) ?_
                        refine va_get (D := D) (ci := 7) (C := RX6) (T := TX6) (N := 22) hx hb hts iuX6 hown hK.1 (WW_one hR (f := 0) (i := 0) rfl) 0 rfl rfl 16 (by decide) (hts _ q_824) (fun _ h9 => h9) rfl dX6_matches_233 ?_
                        refine lv_iload hx hb dX6_matches_236 (lv_at hl 2 rfl) ?_
                        refine lv_dup2_11 hx hb dX6_matches_238 rfl rfl ?_
                        refine va_iald hx hb hK.1 (WW_one hR (f := 15) (i := 0) rfl) 0 0 rfl rfl g12 dX6_matches_239 ?_
                        refine lv_iload hx hb dX6_matches_240 (lv_at hl 0 rfl) ?_
                        refine lv_isub hx hb dX6_matches_242 ?_
                        refine ww_iast hx hb hK.1 hR hS 0 (f := 15) (j := 0) rfl rfl rfl g12 dX6_matches_243 (fun H locs hR hS => ?_)
                        have hR := HM_row15 0 (q7.toNatClampNeg) ((gI q22 15 0 q7.toNatClampNeg) - x18) hR
                        refine lv_aload_n hx hb dX6_matches_244 rfl (lv_at hl 4 rfl) ?_
                        refine va_get (D := D) (ci := 7) (C := RX6) (T := TX6) (N := 22) hx hb hts iuX6 hown hK.1 (WW_one hR (f := 0) (i := 0) rfl) 0 rfl rfl 16 (by decide) (hts _ q_824) (fun _ h9 => h9) rfl dX6_matches_245 ?_
                        refine lv_iload_n hx hb dX6_matches_248 rfl (lv_at hl 5 rfl) ?_
                        refine lv_dup2_11 hx hb dX6_matches_249 rfl rfl ?_
                        refine va_iald hx hb hK.1 (WW_one hR (f := 15) (i := 0) rfl) 0 0 rfl rfl g3 dX6_matches_250 ?_
                        refine lv_iload hx hb dX6_matches_251 (lv_at hl 0 rfl) ?_
                        refine lv_isub hx hb dX6_matches_253 ?_
                        refine ww_iast hx hb hK.1 hR hS 0 (f := 15) (j := 0) rfl rfl rfl g3 dX6_matches_254 (fun H locs hR hS => ?_)
                        have hR := HM_row15 0 (v1.toNatClampNeg) ((gI (pI q22 15 0 q7.toNatClampNeg ((gI q22 15 0 q7.toNatClampNeg) - x18)) 15 0 v1.toNatClampNeg) - x18) hR
                        refine lv_goto (tgt := 9) hx hb dX6_matches_255 (by decide) ?_
                        exact ih _ _ _ (pI (pI q22 15 0 q7.toNatClampNeg ((gI q22 15 0 q7.toNatClampNeg) - x18)) 15 0 v1.toNatClampNeg ((gI (pI q22 15 0 q7.toNatClampNeg ((gI q22 15 0 q7.toNatClampNeg) - x18)) 15 0 v1.toNatClampNeg) - x18)) 0 v2 v1 hR hS (lv_sub hl [1, 3, 4, 5] rfl) hf
                    · have hf := if_of_neg hf c19
                      refine lv_aload_n hx hb dX6_matches_178 rfl (lv_at hl 4 rfl) ?_
                      refine va_get (D := D) (ci := 7) (C := RX6) (T := TX6) (N := 22) hx hb hts iuX6 hown hK.1 (WW_one hR (f := 0) (i := 0) rfl) 0 rfl rfl 12 (by decide) (hts _ q_820) (fun _ h9 => h9) rfl dX6_matches_179 ?_
                      refine lv_iload_n hx hb dX6_matches_182 rfl (lv_at hl 5 rfl) ?_
                      refine va_iald hx hb hK.1 (WW_one hR (f := 11) (i := 0) rfl) 0 0 rfl rfl g3 dX6_matches_183 ?_
                      refine lv_goto (tgt := 194) hx hb dX6_matches_184 (by decide) ?_
                      refine lv_aload_n hx hb dX6_matches_194 rfl (lv_at hl 4 rfl) ?_
                      refine va_get (D := D) (ci := 7) (C := RX6) (T := TX6) (N := 22) hx hb hts iuX6 hown hK.1 (WW_one hR (f := 0) (i := 0) rfl) 0 rfl rfl 14 (by decide) (hts _ q_822) (fun _ h9 => h9) rfl dX6_matches_195 ?_
                      refine lv_iload_n hx hb dX6_matches_198 rfl (lv_at hl 5 rfl) ?_
                      refine va_zald hx hb hK.1 (WW_one hR (f := 13) (i := 0) rfl) 0 2 rfl rfl g3 dX6_matches_199 ?_
                      refine lv_if_eq (tgt := 213) hx hb dX6_matches_200 (by decide) (fun c23 => ?_) (fun c23 => ?_)
                      · have hf := if_of_pos hf c23
                        refine lv_aload_n hx hb dX6_matches_213 rfl (lv_at hl 4 rfl) ?_
                        refine va_get (D := D) (ci := 7) (C := RX6) (T := TX6) (N := 22) hx hb hts iuX6 hown hK.1 (WW_one hR (f := 0) (i := 0) rfl) 0 rfl rfl 12 (by decide) (hts _ q_820) (fun _ h9 => h9) rfl dX6_matches_214 ?_
                        refine lv_iload_n hx hb dX6_matches_217 rfl (lv_at hl 5 rfl) ?_
                        refine va_iald hx hb hK.1 (WW_one hR (f := 11) (i := 0) rfl) 0 0 rfl rfl g3 dX6_matches_218 ?_
                        refine lv_iload_n hx hb dX6_matches_219 rfl (lv_at hl 3 rfl) ?_
                        refine lv_iload hx hb dX6_matches_220 (lv_at hl 0 rfl) ?_
                        refine lv_aload_n hx hb dX6_matches_222 rfl (lv_at hl 4 rfl) ?_
                        refine va_get (D := D) (ci := 7) (C := RX6) (T := TX6) (N := 22) hx hb hts iuX6 hown hK.1 (WW_one hR (f := 0) (i := 0) rfl) 0 rfl rfl 15 (by decide) (hts _ q_823) (fun _ h9 => h9) rfl dX6_matches_223 ?_
                        refine lv_iload hx hb dX6_matches_226 (lv_at hl 2 rfl) ?_
                        refine va_iald hx hb hK.1 (WW_one hR (f := 14) (i := 0) rfl) 0 0 rfl rfl g12 dX6_matches_228 ?_
                        obtain ⟨q24, hcq24, hf⟩ := bd_of hf
                        refine kc_v (va_runV (As := [.int (gI σ 11 0 v1.toNatClampNeg), .int (gI σ 11 0 v1.toNatClampNeg), .int v2, .int x18, .int (gI σ 14 0 q7.toNatClampNeg)]) (rest := []) ⟨hx, hb, hml, hown, hts⟩ (mX6_trade l D dA ad σ _ (gI σ 11 0 v1.toNatClampNeg) (gI σ 11 0 v1.toNatClampNeg) v2 x18 (gI σ 14 0 q7.toNatClampNeg) q24 hcq24) (cwV 5 hts gX6_127 rfl rfl rfl (by decide +kernel) ⟨Nat.le_of_ble_eq_true rfl, Nat.le_of_ble_eq_true rfl⟩) (preV_of hR hK (f := 0) (i := 0) rfl rfl rfl _) rfl rfl hl.1 rfl (lv_room (Nat.le_of_ble_eq_true rfl)) dX6_matches_229 ⟨Nat.zero_le _, Nat.zero_le _⟩) hA hR hS (fun H locs hR hS => ?_)
                        refine lv_aload_n hx hb dX6_matches_232 rfl (lv_at hl 4 rfl) ?_
                        refine va_get (D := D) (ci := 7) (C := RX6) (T := TX6) (N := 22) hx hb hts iuX6 hown hK.1 (WW_one hR (f := 0) (i := 0) rfl) 0 rfl rfl 16 (by decide) (hts _ q_824) (fun _ h9 => h9) rfl dX6_matches_233 ?_
                        refine lv_iload hx hb dX6_matches_236 (lv_at hl 2 rfl) ?_
                        refine lv_dup2_11 hx hb dX6_matches_238 rfl rfl ?_
                        refine va_iald hx hb hK.1 (WW_one hR (f := 15) (i := 0) rfl) 0 0 rfl rfl g12 dX6_matches_239 ?_
                        refine lv_iload hx hb dX6_matches_240 (lv_at hl 0 rfl) ?_
                        refine lv_isub hx hb dX6_matches_242 ?_
                        refine ww_iast hx hb hK.1 hR hS 0 (f := 15) (j := 0) rfl rfl rfl g12 dX6_matches_243 (fun H locs hR hS => ?_)
                        have hR := HM_row15 0 (q7.toNatClampNeg) ((gI q24 15 0 q7.toNatClampNeg) - x18) hR
                        refine lv_aload_n hx hb dX6_matches_244 rfl (lv_at hl 4 rfl) ?_
                        refine va_get (D := D) (ci := 7) (C := RX6) (T := TX6) (N := 22) hx hb hts iuX6 hown hK.1 (WW_one hR (f := 0) (i := 0) rfl) 0 rfl rfl 16 (by decide) (hts _ q_824) (fun _ h9 => h9) rfl dX6_matches_245 ?_
                        refine lv_iload_n hx hb dX6_matches_248 rfl (lv_at hl 5 rfl) ?_
                        refine lv_dup2_11 hx hb dX6_matches_249 rfl rfl ?_
                        refine va_iald hx hb hK.1 (WW_one hR (f := 15) (i := 0) rfl) 0 0 rfl rfl g3 dX6_matches_250 ?_
                        refine lv_iload hx hb dX6_matches_251 (lv_at hl 0 rfl) ?_
                        refine lv_isub hx hb dX6_matches_253 ?_
                        refine ww_iast hx hb hK.1 hR hS 0 (f := 15) (j := 0) rfl rfl rfl g3 dX6_matches_254 (fun H locs hR hS => ?_)
                        have hR := HM_row15 0 (v1.toNatClampNeg) ((gI (pI q24 15 0 q7.toNatClampNeg ((gI q24 15 0 q7.toNatClampNeg) - x18)) 15 0 v1.toNatClampNeg) - x18) hR
                        refine lv_goto (tgt := 9) hx hb dX6_matches_255 (by decide) ?_
                        exact ih _ _ _ (pI (pI q24 15 0 q7.toNatClampNeg ((gI q24 15 0 q7.toNatClampNeg) - x18)) 15 0 v1.toNatClampNeg ((gI (pI q24 15 0 q7.toNatClampNeg ((gI q24 15 0 q7.toNatClampNeg) - x18)) 15 0 v1.toNatClampNeg) - x18)) 0 v2 v1 hR hS (lv_sub hl [1, 3, 4, 5] rfl) hf
                      · have hf := if_of_neg hf c23
                        refine lv_aload_n hx hb dX6_matches_203 rfl (lv_at hl 4 rfl) ?_
                        refine va_get (D := D) (ci := 7) (C := RX6) (T := TX6) (N := 22) hx hb hts iuX6 hown hK.1 (WW_one hR (f := 0) (i := 0) rfl) 0 rfl rfl 12 (by decide) (hts _ q_820) (fun _ h9 => h9) rfl dX6_matches_204 ?_
                        refine lv_iload hx hb dX6_matches_207 (lv_at hl 2 rfl) ?_
                        refine va_iald hx hb hK.1 (WW_one hR (f := 11) (i := 0) rfl) 0 0 rfl rfl g12 dX6_matches_209 ?_
                        refine lv_goto (tgt := 219) hx hb dX6_matches_210 (by decide) ?_
                        refine lv_iload_n hx hb dX6_matches_219 rfl (lv_at hl 3 rfl) ?_
                        refine lv_iload hx hb dX6_matches_220 (lv_at hl 0 rfl) ?_
                        refine lv_aload_n hx hb dX6_matches_222 rfl (lv_at hl 4 rfl) ?_
                        refine va_get (D := D) (ci := 7) (C := RX6) (T := TX6) (N := 22) hx hb hts iuX6 hown hK.1 (WW_one hR (f := 0) (i := 0) rfl) 0 rfl rfl 15 (by decide) (hts _ q_823) (fun _ h9 => h9) rfl dX6_matches_223 ?_
                        refine lv_iload hx hb dX6_matches_226 (lv_at hl 2 rfl) ?_
                        refine va_iald hx hb hK.1 (WW_one hR (f := 14) (i := 0) rfl) 0 0 rfl rfl g12 dX6_matches_228 ?_
                        obtain ⟨q25, hcq25, hf⟩ := bd_of hf
                        refine kc_v (va_runV (As := [.int (gI σ 11 0 v1.toNatClampNeg), .int (gI σ 11 0 q7.toNatClampNeg), .int v2, .int x18, .int (gI σ 14 0 q7.toNatClampNeg)]) (rest := []) ⟨hx, hb, hml, hown, hts⟩ (mX6_trade l D dA ad σ _ (gI σ 11 0 v1.toNatClampNeg) (gI σ 11 0 q7.toNatClampNeg) v2 x18 (gI σ 14 0 q7.toNatClampNeg) q25 hcq25) (cwV 5 hts gX6_127 rfl rfl rfl (by decide +kernel) ⟨Nat.le_of_ble_eq_true rfl, Nat.le_of_ble_eq_true rfl⟩) (preV_of hR hK (f := 0) (i := 0) rfl rfl rfl _) rfl rfl hl.1 rfl (lv_room (Nat.le_of_ble_eq_true rfl)) dX6_matches_229 ⟨Nat.zero_le _, Nat.zero_le _⟩) hA hR hS (fun H locs hR hS => ?_)
                        refine lv_aload_n hx hb dX6_matches_232 rfl (lv_at hl 4 rfl) ?_
                        refine va_get (D := D) (ci := 7) (C := RX6) (T := TX6) (N := 22) hx hb hts iuX6 hown hK.1 (WW_one hR (f := 0) (i := 0) rfl) 0 rfl rfl 16 (by decide) (hts _ q_824) (fun _ h9 => h9) rfl dX6_matches_233 ?_
                        refine lv_iload hx hb dX6_matches_236 (lv_at hl 2 rfl) ?_
                        refine lv_dup2_11 hx hb dX6_matches_238 rfl rfl ?_
                        refine va_iald hx hb hK.1 (WW_one hR (f := 15) (i := 0) rfl) 0 0 rfl rfl g12 dX6_matches_239 ?_
                        refine lv_iload hx hb dX6_matches_240 (lv_at hl 0 rfl) ?_
                        refine lv_isub hx hb dX6_matches_242 ?_
                        refine ww_iast hx hb hK.1 hR hS 0 (f := 15) (j := 0) rfl rfl rfl g12 dX6_matches_243 (fun H locs hR hS => ?_)
                        have hR := HM_row15 0 (q7.toNatClampNeg) ((gI q25 15 0 q7.toNatClampNeg) - x18) hR
                        refine lv_aload_n hx hb dX6_matches_244 rfl (lv_at hl 4 rfl) ?_
                        refine va_get (D := D) (ci := 7) (C := RX6) (T := TX6) (N := 22) hx hb hts iuX6 hown hK.1 (WW_one hR (f := 0) (i := 0) rfl) 0 rfl rfl 16 (by decide) (hts _ q_824) (fun _ h9 => h9) rfl dX6_matches_245 ?_
                        refine lv_iload_n hx hb dX6_matches_248 rfl (lv_at hl 5 rfl) ?_
                        refine lv_dup2_11 hx hb dX6_matches_249 rfl rfl ?_
                        refine va_iald hx hb hK.1 (WW_one hR (f := 15) (i := 0) rfl) 0 0 rfl rfl g3 dX6_matches_250 ?_
                        refine lv_iload hx hb dX6_matches_251 (lv_at hl 0 rfl) ?_
                        refine lv_isub hx hb dX6_matches_253 ?_
                        refine ww_iast hx hb hK.1 hR hS 0 (f := 15) (j := 0) rfl rfl rfl g3 dX6_matches_254 (fun H locs hR hS => ?_)
                        have hR := HM_row15 0 (v1.toNatClampNeg) ((gI (pI q25 15 0 q7.toNatClampNeg ((gI q25 15 0 q7.toNatClampNeg) - x18)) 15 0 v1.toNatClampNeg) - x18) hR
                        refine lv_goto (tgt := 9) hx hb dX6_matches_255 (by decide) ?_
                        exact ih _ _ _ (pI (pI q25 15 0 q7.toNatClampNeg ((gI q25 15 0 q7.toNatClampNeg) - x18)) 15 0 v1.toNatClampNeg ((gI (pI q25 15 0 q7.toNatClampNeg ((gI q25 15 0 q7.toNatClampNeg) - x18)) 15 0 v1.toNatClampNeg) - x18)) 0 v2 v1 hR hS (lv_sub hl [1, 3, 4, 5] rfl) hf
                  · have hf := if_of_neg hf c17
                    refine lv_aload_n hx hb dX6_matches_150 rfl (lv_at hl 3 rfl) ?_
                    refine va_get (D := D) (ci := 7) (C := RX6) (T := TX6) (N := 22) hx hb hts iuX6 hown hK.1 (WW_one hR (f := 0) (i := 0) rfl) 0 rfl rfl 16 (by decide) (hts _ q_824) (fun _ h9 => h9) rfl dX6_matches_151 ?_
                    refine lv_iload hx hb dX6_matches_154 (lv_at hl 1 rfl) ?_
                    refine va_iald hx hb hK.1 (WW_one hR (f := 15) (i := 0) rfl) 0 0 rfl rfl g12 dX6_matches_156 ?_
                    refine lv_goto (tgt := 166) hx hb dX6_matches_157 (by decide) ?_
                    refine lv_topi (fun x26 hx26 => ?_)
                    have hf := kst_eq hx26 hf
                    refine lv_istore (lv' := [(5, .int x26), (3, .int 0), (4, .int q7), (2, .int v2), (0, .ref (ad 0 0)), (1, .int v1)]) hx hb dX6_matches_166 hl (by decide) rfl (fun ls hl => ?_)
                    refine lv_aload_n hx hb dX6_matches_168 rfl (lv_at hl 4 rfl) ?_
                    refine lv_aload_n hx hb dX6_matches_169 rfl (lv_at hl 4 rfl) ?_
                    refine va_get (D := D) (ci := 7) (C := RX6) (T := TX6) (N := 22) hx hb hts iuX6 hown hK.1 (WW_one hR (f := 0) (i := 0) rfl) 0 rfl rfl 14 (by decide) (hts _ q_822) (fun _ h9 => h9) rfl dX6_matches_170 ?_
                    refine lv_iload_n hx hb dX6_matches_173 rfl (lv_at hl 5 rfl) ?_
                    refine va_zald hx hb hK.1 (WW_one hR (f := 13) (i := 0) rfl) 0 2 rfl rfl g3 dX6_matches_174 ?_
                    refine lv_if_eq (tgt := 187) hx hb dX6_matches_175 (by decide) (fun c27 => ?_) (fun c27 => ?_)
                    · have hf := if_of_pos hf c27
                      refine lv_aload_n hx hb dX6_matches_187 rfl (lv_at hl 4 rfl) ?_
                      refine va_get (D := D) (ci := 7) (C := RX6) (T := TX6) (N := 22) hx hb hts iuX6 hown hK.1 (WW_one hR (f := 0) (i := 0) rfl) 0 rfl rfl 12 (by decide) (hts _ q_820) (fun _ h9 => h9) rfl dX6_matches_188 ?_
                      refine lv_iload hx hb dX6_matches_191 (lv_at hl 2 rfl) ?_
                      refine va_iald hx hb hK.1 (WW_one hR (f := 11) (i := 0) rfl) 0 0 rfl rfl g12 dX6_matches_193 ?_
                      refine lv_aload_n hx hb dX6_matches_194 rfl (lv_at hl 4 rfl) ?_
                      refine va_get (D := D) (ci := 7) (C := RX6) (T := TX6) (N := 22) hx hb hts iuX6 hown hK.1 (WW_one hR (f := 0) (i := 0) rfl) 0 rfl rfl 14 (by decide) (hts _ q_822) (fun _ h9 => h9) rfl dX6_matches_195 ?_
                      refine lv_iload_n hx hb dX6_matches_198 rfl (lv_at hl 5 rfl) ?_
                      refine va_zald hx hb hK.1 (WW_one hR (f := 13) (i := 0) rfl) 0 2 rfl rfl g3 dX6_matches_199 ?_
                      refine lv_if_eq (tgt := 213) hx hb dX6_matches_200 (by decide) (fun c28 => ?_) (fun c28 => ?_)
                      · have hf := if_of_pos hf c28
                        refine lv_aload_n hx hb dX6_matches_213 rfl (lv_at hl 4 rfl) ?_
                        refine va_get (D := D) (ci := 7) (C := RX6) (T := TX6) (N := 22) hx hb hts iuX6 hown hK.1 (WW_one hR (f := 0) (i := 0) rfl) 0 rfl rfl 12 (by decide) (hts _ q_820) (fun _ h9 => h9) rfl dX6_matches_214 ?_
                        refine lv_iload_n hx hb dX6_matches_217 rfl (lv_at hl 5 rfl) ?_
                        refine va_iald hx hb hK.1 (WW_one hR (f := 11) (i := 0) rfl) 0 0 rfl rfl g3 dX6_matches_218 ?_
                        refine lv_iload_n hx hb dX6_matches_219 rfl (lv_at hl 3 rfl) ?_
                        refine lv_iload hx hb dX6_matches_220 (lv_at hl 0 rfl) ?_
                        refine lv_aload_n hx hb dX6_matches_222 rfl (lv_at hl 4 rfl) ?_
                        refine va_get (D := D) (ci := 7) (C := RX6) (T := TX6) (N := 22) hx hb hts iuX6 hown hK.1 (WW_one hR (f := 0) (i := 0) rfl) 0 rfl rfl 15 (by decide) (hts _ q_823) (fun _ h9 => h9) rfl dX6_matches_223 ?_
                        refine lv_iload hx hb dX6_matches_226 (lv_at hl 2 rfl) ?_
                        refine va_iald hx hb hK.1 (WW_one hR (f := 14) (i := 0) rfl) 0 0 rfl rfl g12 dX6_matches_228 ?_
                        obtain ⟨q29, hcq29, hf⟩ := bd_of hf
                        refine kc_v (va_runV (As := [.int (gI σ 11 0 q7.toNatClampNeg), .int (gI σ 11 0 v1.toNatClampNeg), .int v2, .int x26, .int (gI σ 14 0 q7.toNatClampNeg)]) (rest := []) ⟨hx, hb, hml, hown, hts⟩ (mX6_trade l D dA ad σ _ (gI σ 11 0 q7.toNatClampNeg) (gI σ 11 0 v1.toNatClampNeg) v2 x26 (gI σ 14 0 q7.toNatClampNeg) q29 hcq29) (cwV 5 hts gX6_127 rfl rfl rfl (by decide +kernel) ⟨Nat.le_of_ble_eq_true rfl, Nat.le_of_ble_eq_true rfl⟩) (preV_of hR hK (f := 0) (i := 0) rfl rfl rfl _) rfl rfl hl.1 rfl (lv_room (Nat.le_of_ble_eq_true rfl)) dX6_matches_229 ⟨Nat.zero_le _, Nat.zero_le _⟩) hA hR hS (fun H locs hR hS => ?_)
                        refine lv_aload_n hx hb dX6_matches_232 rfl (lv_at hl 4 rfl) ?_
                        refine va_get (D := D) (ci := 7) (C := RX6) (T := TX6) (N := 22) hx hb hts iuX6 hown hK.1 (WW_one hR (f := 0) (i := 0) rfl) 0 rfl rfl 16 (by decide) (hts _ q_824) (fun _ h9 => h9) rfl dX6_matches_233 ?_
                        refine lv_iload hx hb dX6_matches_236 (lv_at hl 2 rfl) ?_
                        refine lv_dup2_11 hx hb dX6_matches_238 rfl rfl ?_
                        refine va_iald hx hb hK.1 (WW_one hR (f := 15) (i := 0) rfl) 0 0 rfl rfl g12 dX6_matches_239 ?_
                        refine lv_iload hx hb dX6_matches_240 (lv_at hl 0 rfl) ?_
                        refine lv_isub hx hb dX6_matches_242 ?_
                        refine ww_iast hx hb hK.1 hR hS 0 (f := 15) (j := 0) rfl rfl rfl g12 dX6_matches_243 (fun H locs hR hS => ?_)
                        have hR := HM_row15 0 (q7.toNatClampNeg) ((gI q29 15 0 q7.toNatClampNeg) - x26) hR
                        refine lv_aload_n hx hb dX6_matches_244 rfl (lv_at hl 4 rfl) ?_
                        refine va_get (D := D) (ci := 7) (C := RX6) (T := TX6) (N := 22) hx hb hts iuX6 hown hK.1 (WW_one hR (f := 0) (i := 0) rfl) 0 rfl rfl 16 (by decide) (hts _ q_824) (fun _ h9 => h9) rfl dX6_matches_245 ?_
                        refine lv_iload_n hx hb dX6_matches_248 rfl (lv_at hl 5 rfl) ?_
                        refine lv_dup2_11 hx hb dX6_matches_249 rfl rfl ?_
                        refine va_iald hx hb hK.1 (WW_one hR (f := 15) (i := 0) rfl) 0 0 rfl rfl g3 dX6_matches_250 ?_
                        refine lv_iload hx hb dX6_matches_251 (lv_at hl 0 rfl) ?_
                        refine lv_isub hx hb dX6_matches_253 ?_
                        refine ww_iast hx hb hK.1 hR hS 0 (f := 15) (j := 0) rfl rfl rfl g3 dX6_matches_254 (fun H locs hR hS => ?_)
                        have hR := HM_row15 0 (v1.toNatClampNeg) ((gI (pI q29 15 0 q7.toNatClampNeg ((gI q29 15 0 q7.toNatClampNeg) - x26)) 15 0 v1.toNatClampNeg) - x26) hR
                        refine lv_goto (tgt := 9) hx hb dX6_matches_255 (by decide) ?_
                        exact ih _ _ _ (pI (pI q29 15 0 q7.toNatClampNeg ((gI q29 15 0 q7.toNatClampNeg) - x26)) 15 0 v1.toNatClampNeg ((gI (pI q29 15 0 q7.toNatClampNeg ((gI q29 15 0 q7.toNatClampNeg) - x26)) 15 0 v1.toNatClampNeg) - x26)) 0 v2 v1 hR hS (lv_sub hl [1, 3, 4, 5] rfl) hf
                      · have hf := if_of_neg hf c28
                        refine lv_aload_n hx hb dX6_matches_203 rfl (lv_at hl 4 rfl) ?_
                        refine va_get (D := D) (ci := 7) (C := RX6) (T := TX6) (N := 22) hx hb hts iuX6 hown hK.1 (WW_one hR (f := 0) (i := 0) rfl) 0 rfl rfl 12 (by decide) (hts _ q_820) (fun _ h9 => h9) rfl dX6_matches_204 ?_
                        refine lv_iload hx hb dX6_matches_207 (lv_at hl 2 rfl) ?_
                        refine va_iald hx hb hK.1 (WW_one hR (f := 11) (i := 0) rfl) 0 0 rfl rfl g12 dX6_matches_209 ?_
                        refine lv_goto (tgt := 219) hx hb dX6_matches_210 (by decide) ?_
                        refine lv_iload_n hx hb dX6_matches_219 rfl (lv_at hl 3 rfl) ?_
                        refine lv_iload hx hb dX6_matches_220 (lv_at hl 0 rfl) ?_
                        refine lv_aload_n hx hb dX6_matches_222 rfl (lv_at hl 4 rfl) ?_
                        refine va_get (D := D) (ci := 7) (C := RX6) (T := TX6) (N := 22) hx hb hts iuX6 hown hK.1 (WW_one hR (f := 0) (i := 0) rfl) 0 rfl rfl 15 (by decide) (hts _ q_823) (fun _ h9 => h9) rfl dX6_matches_223 ?_
                        refine lv_iload hx hb dX6_matches_226 (lv_at hl 2 rfl) ?_
                        refine va_iald hx hb hK.1 (WW_one hR (f := 14) (i := 0) rfl) 0 0 rfl rfl g12 dX6_matches_228 ?_
                        obtain ⟨q30, hcq30, hf⟩ := bd_of hf
                        refine kc_v (va_runV (As := [.int (gI σ 11 0 q7.toNatClampNeg), .int (gI σ 11 0 q7.toNatClampNeg), .int v2, .int x26, .int (gI σ 14 0 q7.toNatClampNeg)]) (rest := []) ⟨hx, hb, hml, hown, hts⟩ (mX6_trade l D dA ad σ _ (gI σ 11 0 q7.toNatClampNeg) (gI σ 11 0 q7.toNatClampNeg) v2 x26 (gI σ 14 0 q7.toNatClampNeg) q30 hcq30) (cwV 5 hts gX6_127 rfl rfl rfl (by decide +kernel) ⟨Nat.le_of_ble_eq_true rfl, Nat.le_of_ble_eq_true rfl⟩) (preV_of hR hK (f := 0) (i := 0) rfl rfl rfl _) rfl rfl hl.1 rfl (lv_room (Nat.le_of_ble_eq_true rfl)) dX6_matches_229 ⟨Nat.zero_le _, Nat.zero_le _⟩) hA hR hS (fun H locs hR hS => ?_)
                        refine lv_aload_n hx hb dX6_matches_232 rfl (lv_at hl 4 rfl) ?_
                        refine va_get (D := D) (ci := 7) (C := RX6) (T := TX6) (N := 22) hx hb hts iuX6 hown hK.1 (WW_one hR (f := 0) (i := 0) rfl) 0 rfl rfl 16 (by decide) (hts _ q_824) (fun _ h9 => h9) rfl dX6_matches_233 ?_
                        refine lv_iload hx hb dX6_matches_236 (lv_at hl 2 rfl) ?_
                        refine lv_dup2_11 hx hb dX6_matches_238 rfl rfl ?_
                        refine va_iald hx hb hK.1 (WW_one hR (f := 15) (i := 0) rfl) 0 0 rfl rfl g12 dX6_matches_239 ?_
                        refine lv_iload hx hb dX6_matches_240 (lv_at hl 0 rfl) ?_
                        refine lv_isub hx hb dX6_matches_242 ?_
                        refine ww_iast hx hb hK.1 hR hS 0 (f := 15) (j := 0) rfl rfl rfl g12 dX6_matches_243 (fun H locs hR hS => ?_)
                        have hR := HM_row15 0 (q7.toNatClampNeg) ((gI q30 15 0 q7.toNatClampNeg) - x26) hR
                        refine lv_aload_n hx hb dX6_matches_244 rfl (lv_at hl 4 rfl) ?_
                        refine va_get (D := D) (ci := 7) (C := RX6) (T := TX6) (N := 22) hx hb hts iuX6 hown hK.1 (WW_one hR (f := 0) (i := 0) rfl) 0 rfl rfl 16 (by decide) (hts _ q_824) (fun _ h9 => h9) rfl dX6_matches_245 ?_
                        refine lv_iload_n hx hb dX6_matches_248 rfl (lv_at hl 5 rfl) ?_
                        refine lv_dup2_11 hx hb dX6_matches_249 rfl rfl ?_
                        refine va_iald hx hb hK.1 (WW_one hR (f := 15) (i := 0) rfl) 0 0 rfl rfl g3 dX6_matches_250 ?_
                        refine lv_iload hx hb dX6_matches_251 (lv_at hl 0 rfl) ?_
                        refine lv_isub hx hb dX6_matches_253 ?_
                        refine ww_iast hx hb hK.1 hR hS 0 (f := 15) (j := 0) rfl rfl rfl g3 dX6_matches_254 (fun H locs hR hS => ?_)
                        have hR := HM_row15 0 (v1.toNatClampNeg) ((gI (pI q30 15 0 q7.toNatClampNeg ((gI q30 15 0 q7.toNatClampNeg) - x26)) 15 0 v1.toNatClampNeg) - x26) hR
                        refine lv_goto (tgt := 9) hx hb dX6_matches_255 (by decide) ?_
                        exact ih _ _ _ (pI (pI q30 15 0 q7.toNatClampNeg ((gI q30 15 0 q7.toNatClampNeg) - x26)) 15 0 v1.toNatClampNeg ((gI (pI q30 15 0 q7.toNatClampNeg ((gI q30 15 0 q7.toNatClampNeg) - x26)) 15 0 v1.toNatClampNeg) - x26)) 0 v2 v1 hR hS (lv_sub hl [1, 3, 4, 5] rfl) hf
                    · have hf := if_of_neg hf c27
                      refine lv_aload_n hx hb dX6_matches_178 rfl (lv_at hl 4 rfl) ?_
                      refine va_get (D := D) (ci := 7) (C := RX6) (T := TX6) (N := 22) hx hb hts iuX6 hown hK.1 (WW_one hR (f := 0) (i := 0) rfl) 0 rfl rfl 12 (by decide) (hts _ q_820) (fun _ h9 => h9) rfl dX6_matches_179 ?_
                      refine lv_iload_n hx hb dX6_matches_182 rfl (lv_at hl 5 rfl) ?_
                      refine va_iald hx hb hK.1 (WW_one hR (f := 11) (i := 0) rfl) 0 0 rfl rfl g3 dX6_matches_183 ?_
                      refine lv_goto (tgt := 194) hx hb dX6_matches_184 (by decide) ?_
                      refine lv_aload_n hx hb dX6_matches_194 rfl (lv_at hl 4 rfl) ?_
                      refine va_get (D := D) (ci := 7) (C := RX6) (T := TX6) (N := 22) hx hb hts iuX6 hown hK.1 (WW_one hR (f := 0) (i := 0) rfl) 0 rfl rfl 14 (by decide) (hts _ q_822) (fun _ h9 => h9) rfl dX6_matches_195 ?_
                      refine lv_iload_n hx hb dX6_matches_198 rfl (lv_at hl 5 rfl) ?_
                      refine va_zald hx hb hK.1 (WW_one hR (f := 13) (i := 0) rfl) 0 2 rfl rfl g3 dX6_matches_199 ?_
                      refine lv_if_eq (tgt := 213) hx hb dX6_matches_200 (by decide) (fun c31 => ?_) (fun c31 => ?_)
                      · have hf := if_of_pos hf c31
                        refine lv_aload_n hx hb dX6_matches_213 rfl (lv_at hl 4 rfl) ?_
                        refine va_get (D := D) (ci := 7) (C := RX6) (T := TX6) (N := 22) hx hb hts iuX6 hown hK.1 (WW_one hR (f := 0) (i := 0) rfl) 0 rfl rfl 12 (by decide) (hts _ q_820) (fun _ h9 => h9) rfl dX6_matches_214 ?_
                        refine lv_iload_n hx hb dX6_matches_217 rfl (lv_at hl 5 rfl) ?_
                        refine va_iald hx hb hK.1 (WW_one hR (f := 11) (i := 0) rfl) 0 0 rfl rfl g3 dX6_matches_218 ?_
                        refine lv_iload_n hx hb dX6_matches_219 rfl (lv_at hl 3 rfl) ?_
                        refine lv_iload hx hb dX6_matches_220 (lv_at hl 0 rfl) ?_
                        refine lv_aload_n hx hb dX6_matches_222 rfl (lv_at hl 4 rfl) ?_
                        refine va_get (D := D) (ci := 7) (C := RX6) (T := TX6) (N := 22) hx hb hts iuX6 hown hK.1 (WW_one hR (f := 0) (i := 0) rfl) 0 rfl rfl 15 (by decide) (hts _ q_823) (fun _ h9 => h9) rfl dX6_matches_223 ?_
                        refine lv_iload hx hb dX6_matches_226 (lv_at hl 2 rfl) ?_
                        refine va_iald hx hb hK.1 (WW_one hR (f := 14) (i := 0) rfl) 0 0 rfl rfl g12 dX6_matches_228 ?_
                        obtain ⟨q32, hcq32, hf⟩ := bd_of hf
                        refine kc_v (va_runV (As := [.int (gI σ 11 0 v1.toNatClampNeg), .int (gI σ 11 0 v1.toNatClampNeg), .int v2, .int x26, .int (gI σ 14 0 q7.toNatClampNeg)]) (rest := []) ⟨hx, hb, hml, hown, hts⟩ (mX6_trade l D dA ad σ _ (gI σ 11 0 v1.toNatClampNeg) (gI σ 11 0 v1.toNatClampNeg) v2 x26 (gI σ 14 0 q7.toNatClampNeg) q32 hcq32) (cwV 5 hts gX6_127 rfl rfl rfl (by decide +kernel) ⟨Nat.le_of_ble_eq_true rfl, Nat.le_of_ble_eq_true rfl⟩) (preV_of hR hK (f := 0) (i := 0) rfl rfl rfl _) rfl rfl hl.1 rfl (lv_room (Nat.le_of_ble_eq_true rfl)) dX6_matches_229 ⟨Nat.zero_le _, Nat.zero_le _⟩) hA hR hS (fun H locs hR hS => ?_)
                        refine lv_aload_n hx hb dX6_matches_232 rfl (lv_at hl 4 rfl) ?_
                        refine va_get (D := D) (ci := 7) (C := RX6) (T := TX6) (N := 22) hx hb hts iuX6 hown hK.1 (WW_one hR (f := 0) (i := 0) rfl) 0 rfl rfl 16 (by decide) (hts _ q_824) (fun _ h9 => h9) rfl dX6_matches_233 ?_
                        refine lv_iload hx hb dX6_matches_236 (lv_at hl 2 rfl) ?_
                        refine lv_dup2_11 hx hb dX6_matches_238 rfl rfl ?_
                        refine va_iald hx hb hK.1 (WW_one hR (f := 15) (i := 0) rfl) 0 0 rfl rfl g12 dX6_matches_239 ?_
                        refine lv_iload hx hb dX6_matches_240 (lv_at hl 0 rfl) ?_
                        refine lv_isub hx hb dX6_matches_242 ?_
                        refine ww_iast hx hb hK.1 hR hS 0 (f := 15) (j := 0) rfl rfl rfl g12 dX6_matches_243 (fun H locs hR hS => ?_)
                        have hR := HM_row15 0 (q7.toNatClampNeg) ((gI q32 15 0 q7.toNatClampNeg) - x26) hR
                        refine lv_aload_n hx hb dX6_matches_244 rfl (lv_at hl 4 rfl) ?_
                        refine va_get (D := D) (ci := 7) (C := RX6) (T := TX6) (N := 22) hx hb hts iuX6 hown hK.1 (WW_one hR (f := 0) (i := 0) rfl) 0 rfl rfl 16 (by decide) (hts _ q_824) (fun _ h9 => h9) rfl dX6_matches_245 ?_
                        refine lv_iload_n hx hb dX6_matches_248 rfl (lv_at hl 5 rfl) ?_
                        refine lv_dup2_11 hx hb dX6_matches_249 rfl rfl ?_
                        refine va_iald hx hb hK.1 (WW_one hR (f := 15) (i := 0) rfl) 0 0 rfl rfl g3 dX6_matches_250 ?_
                        refine lv_iload hx hb dX6_matches_251 (lv_at hl 0 rfl) ?_
                        refine lv_isub hx hb dX6_matches_253 ?_
                        refine ww_iast hx hb hK.1 hR hS 0 (f := 15) (j := 0) rfl rfl rfl g3 dX6_matches_254 (fun H locs hR hS => ?_)
                        have hR := HM_row15 0 (v1.toNatClampNeg) ((gI (pI q32 15 0 q7.toNatClampNeg ((gI q32 15 0 q7.toNatClampNeg) - x26)) 15 0 v1.toNatClampNeg) - x26) hR
                        refine lv_goto (tgt := 9) hx hb dX6_matches_255 (by decide) ?_
                        exact ih _ _ _ (pI (pI q32 15 0 q7.toNatClampNeg ((gI q32 15 0 q7.toNatClampNeg) - x26)) 15 0 v1.toNatClampNeg ((gI (pI q32 15 0 q7.toNatClampNeg ((gI q32 15 0 q7.toNatClampNeg) - x26)) 15 0 v1.toNatClampNeg) - x26)) 0 v2 v1 hR hS (lv_sub hl [1, 3, 4, 5] rfl) hf
                      · have hf := if_of_neg hf c31
                        refine lv_aload_n hx hb dX6_matches_203 rfl (lv_at hl 4 rfl) ?_
                        refine va_get (D := D) (ci := 7) (C := RX6) (T := TX6) (N := 22) hx hb hts iuX6 hown hK.1 (WW_one hR (f := 0) (i := 0) rfl) 0 rfl rfl 12 (by decide) (hts _ q_820) (fun _ h9 => h9) rfl dX6_matches_204 ?_
                        refine lv_iload hx hb dX6_matches_207 (lv_at hl 2 rfl) ?_
                        refine va_iald hx hb hK.1 (WW_one hR (f := 11) (i := 0) rfl) 0 0 rfl rfl g12 dX6_matches_209 ?_
                        refine lv_goto (tgt := 219) hx hb dX6_matches_210 (by decide) ?_
                        refine lv_iload_n hx hb dX6_matches_219 rfl (lv_at hl 3 rfl) ?_
                        refine lv_iload hx hb dX6_matches_220 (lv_at hl 0 rfl) ?_
                        refine lv_aload_n hx hb dX6_matches_222 rfl (lv_at hl 4 rfl) ?_
                        refine va_get (D := D) (ci := 7) (C := RX6) (T := TX6) (N := 22) hx hb hts iuX6 hown hK.1 (WW_one hR (f := 0) (i := 0) rfl) 0 rfl rfl 15 (by decide) (hts _ q_823) (fun _ h9 => h9) rfl dX6_matches_223 ?_
                        refine lv_iload hx hb dX6_matches_226 (lv_at hl 2 rfl) ?_
                        refine va_iald hx hb hK.1 (WW_one hR (f := 14) (i := 0) rfl) 0 0 rfl rfl g12 dX6_matches_228 ?_
                        obtain ⟨q33, hcq33, hf⟩ := bd_of hf
                        refine kc_v (va_runV (As := [.int (gI σ 11 0 v1.toNatClampNeg), .int (gI σ 11 0 q7.toNatClampNeg), .int v2, .int x26, .int (gI σ 14 0 q7.toNatClampNeg)]) (rest := []) ⟨hx, hb, hml, hown, hts⟩ (mX6_trade l D dA ad σ _ (gI σ 11 0 v1.toNatClampNeg) (gI σ 11 0 q7.toNatClampNeg) v2 x26 (gI σ 14 0 q7.toNatClampNeg) q33 hcq33) (cwV 5 hts gX6_127 rfl rfl rfl (by decide +kernel) ⟨Nat.le_of_ble_eq_true rfl, Nat.le_of_ble_eq_true rfl⟩) (preV_of hR hK (f := 0) (i := 0) rfl rfl rfl _) rfl rfl hl.1 rfl (lv_room (Nat.le_of_ble_eq_true rfl)) dX6_matches_229 ⟨Nat.zero_le _, Nat.zero_le _⟩) hA hR hS (fun H locs hR hS => ?_)
                        refine lv_aload_n hx hb dX6_matches_232 rfl (lv_at hl 4 rfl) ?_
                        refine va_get (D := D) (ci := 7) (C := RX6) (T := TX6) (N := 22) hx hb hts iuX6 hown hK.1 (WW_one hR (f := 0) (i := 0) rfl) 0 rfl rfl 16 (by decide) (hts _ q_824) (fun _ h9 => h9) rfl dX6_matches_233 ?_
                        refine lv_iload hx hb dX6_matches_236 (lv_at hl 2 rfl) ?_
                        refine lv_dup2_11 hx hb dX6_matches_238 rfl rfl ?_
                        refine va_iald hx hb hK.1 (WW_one hR (f := 15) (i := 0) rfl) 0 0 rfl rfl g12 dX6_matches_239 ?_
                        refine lv_iload hx hb dX6_matches_240 (lv_at hl 0 rfl) ?_
                        refine lv_isub hx hb dX6_matches_242 ?_
                        refine ww_iast hx hb hK.1 hR hS 0 (f := 15) (j := 0) rfl rfl rfl g12 dX6_matches_243 (fun H locs hR hS => ?_)
                        have hR := HM_row15 0 (q7.toNatClampNeg) ((gI q33 15 0 q7.toNatClampNeg) - x26) hR
                        refine lv_aload_n hx hb dX6_matches_244 rfl (lv_at hl 4 rfl) ?_
                        refine va_get (D := D) (ci := 7) (C := RX6) (T := TX6) (N := 22) hx hb hts iuX6 hown hK.1 (WW_one hR (f := 0) (i := 0) rfl) 0 rfl rfl 16 (by decide) (hts _ q_824) (fun _ h9 => h9) rfl dX6_matches_245 ?_
                        refine lv_iload_n hx hb dX6_matches_248 rfl (lv_at hl 5 rfl) ?_
                        refine lv_dup2_11 hx hb dX6_matches_249 rfl rfl ?_
                        refine va_iald hx hb hK.1 (WW_one hR (f := 15) (i := 0) rfl) 0 0 rfl rfl g3 dX6_matches_250 ?_
                        refine lv_iload hx hb dX6_matches_251 (lv_at hl 0 rfl) ?_
                        refine lv_isub hx hb dX6_matches_253 ?_
                        refine ww_iast hx hb hK.1 hR hS 0 (f := 15) (j := 0) rfl rfl rfl g3 dX6_matches_254 (fun H locs hR hS => ?_)
                        have hR := HM_row15 0 (v1.toNatClampNeg) ((gI (pI q33 15 0 q7.toNatClampNeg ((gI q33 15 0 q7.toNatClampNeg) - x26)) 15 0 v1.toNatClampNeg) - x26) hR
                        refine lv_goto (tgt := 9) hx hb dX6_matches_255 (by decide) ?_
                        exact ih _ _ _ (pI (pI q33 15 0 q7.toNatClampNeg ((gI q33 15 0 q7.toNatClampNeg) - x26)) 15 0 v1.toNatClampNeg ((gI (pI q33 15 0 q7.toNatClampNeg ((gI q33 15 0 q7.toNatClampNeg) - x26)) 15 0 v1.toNatClampNeg) - x26)) 0 v2 v1 hR hS (lv_sub hl [1, 3, 4, 5] rfl) hf
                · have hf := if_of_neg hf (fun q => q c15)
                  refine lv_aload_n hx hb dX6_matches_119 rfl (lv_at hl 3 rfl) ?_
                  refine va_get (D := D) (ci := 7) (C := RX6) (T := TX6) (N := 22) hx hb hts iuX6 hown hK.1 (WW_one hR (f := 0) (i := 0) rfl) 0 rfl rfl 16 (by decide) (hts _ q_824) (fun _ h9 => h9) rfl dX6_matches_120 ?_
                  refine lv_iload hx hb dX6_matches_123 (lv_at hl 1 rfl) ?_
                  refine lv_iconst (v := 0) hx hb dX6_matches_125 (by decide) ?_
                  refine ww_iast hx hb hK.1 hR hS 0 (f := 15) (j := 0) rfl rfl rfl g12 dX6_matches_126 (fun H locs hR hS => ?_)
                  have hR := HM_row15 0 (q7.toNatClampNeg) 0 hR
                  refine lv_goto (tgt := 255) hx hb dX6_matches_127 (by decide) ?_
                  refine lv_goto (tgt := 9) hx hb dX6_matches_255 (by decide) ?_
                  exact ih _ _ _ (pI σ 15 0 q7.toNatClampNeg 0) 0 v2 v1 hR hS (lv_sub hl [0, 2, 3, 4] rfl) hf
              · have hf := if_of_neg hf c13
                refine lv_iconst (v := 1) hx hb dX6_matches_93 (by decide) ?_
                refine lv_goto (tgt := 98) hx hb dX6_matches_94 (by decide) ?_
                refine lv_istore_n (lv' := [(3, .int 1), (4, .int q7), (2, .int v2), (0, .ref (ad 0 0)), (1, .int v1)]) hx hb dX6_matches_98 rfl hl (by decide) rfl (fun ls hl => ?_)
                refine lv_iload_n hx hb dX6_matches_99 rfl (lv_at hl 0 rfl) ?_
                refine lv_if_ne (tgt := 130) hx hb dX6_matches_100 (by decide) (fun c34 => ?_) (fun c34 => absurd c34 (by decide))
                refine lv_iload_n hx hb dX6_matches_130 rfl (lv_at hl 0 rfl) ?_
                refine lv_if_ne (tgt := 255) hx hb dX6_matches_131 (by decide) (fun c35 => ?_) (fun c35 => absurd c35 (by decide))
                refine lv_goto (tgt := 9) hx hb dX6_matches_255 (by decide) ?_
                exact ih _ _ _ σ 1 v2 v1 hR hS (lv_sub hl [0, 2, 3, 4] rfl) hf
            · have hf := if_of_neg hf c11
              refine lv_aload_n hx hb dX6_matches_58 rfl (lv_at hl 3 rfl) ?_
              refine va_get (D := D) (ci := 7) (C := RX6) (T := TX6) (N := 22) hx hb hts iuX6 hown hK.1 (WW_one hR (f := 0) (i := 0) rfl) 0 rfl rfl 15 (by decide) (hts _ q_823) (fun _ h9 => h9) rfl dX6_matches_59 ?_
              refine lv_iload_n hx hb dX6_matches_62 rfl (lv_at hl 4 rfl) ?_
              refine va_iald hx hb hK.1 (WW_one hR (f := 14) (i := 0) rfl) 0 0 rfl rfl g3 dX6_matches_63 ?_
              refine lv_aload_n hx hb dX6_matches_64 rfl (lv_at hl 3 rfl) ?_
              refine va_get (D := D) (ci := 7) (C := RX6) (T := TX6) (N := 22) hx hb hts iuX6 hown hK.1 (WW_one hR (f := 0) (i := 0) rfl) 0 rfl rfl 15 (by decide) (hts _ q_823) (fun _ h9 => h9) rfl dX6_matches_65 ?_
              refine lv_iload hx hb dX6_matches_68 (lv_at hl 0 rfl) ?_
              obtain ⟨g36, hf⟩ := gd_of hf
              refine va_iald hx hb hK.1 (WW_one hR (f := 14) (i := 0) rfl) 0 0 rfl rfl g36 dX6_matches_70 ?_
              refine lv_icmp_ge (tgt := 97) hx hb dX6_matches_71 (by decide) (fun c37 => ?_) (fun c37 => ?_)
              · have hf := if_of_pos hf c37
                refine lv_iconst (v := 0) hx hb dX6_matches_97 (by decide) ?_
                refine lv_istore_n (lv' := [(3, .int 0), (4, .int q7), (2, .int v2), (0, .ref (ad 0 0)), (1, .int v1)]) hx hb dX6_matches_98 rfl hl (by decide) rfl (fun ls hl => ?_)
                refine lv_iload_n hx hb dX6_matches_99 rfl (lv_at hl 0 rfl) ?_
                refine lv_if_ne (tgt := 130) hx hb dX6_matches_100 (by decide) (fun c38 => absurd c38 (by decide)) (fun c38 => ?_)
                refine lv_aload_n hx hb dX6_matches_103 rfl (lv_at hl 3 rfl) ?_
                refine va_get (D := D) (ci := 7) (C := RX6) (T := TX6) (N := 22) hx hb hts iuX6 hown hK.1 (WW_one hR (f := 0) (i := 0) rfl) 0 rfl rfl 12 (by decide) (hts _ q_820) (fun _ h9 => h9) rfl dX6_matches_104 ?_
                refine lv_iload hx hb dX6_matches_107 (lv_at hl 1 rfl) ?_
                refine va_iald hx hb hK.1 (WW_one hR (f := 11) (i := 0) rfl) 0 0 rfl rfl g36 dX6_matches_109 ?_
                refine lv_aload_n hx hb dX6_matches_110 rfl (lv_at hl 3 rfl) ?_
                refine va_get (D := D) (ci := 7) (C := RX6) (T := TX6) (N := 22) hx hb hts iuX6 hown hK.1 (WW_one hR (f := 0) (i := 0) rfl) 0 rfl rfl 12 (by decide) (hts _ q_820) (fun _ h9 => h9) rfl dX6_matches_111 ?_
                refine lv_iload_n hx hb dX6_matches_114 rfl (lv_at hl 4 rfl) ?_
                refine va_iald hx hb hK.1 (WW_one hR (f := 11) (i := 0) rfl) 0 0 rfl rfl g3 dX6_matches_115 ?_
                refine lv_icmp_ne (tgt := 130) hx hb dX6_matches_116 (by decide) (fun c39 => ?_) (fun c39 => ?_)
                · have hf := if_of_pos hf c39
                  refine lv_iload_n hx hb dX6_matches_130 rfl (lv_at hl 0 rfl) ?_
                  refine lv_if_ne (tgt := 255) hx hb dX6_matches_131 (by decide) (fun c40 => absurd c40 (by decide)) (fun c40 => ?_)
                  refine lv_aload_n hx hb dX6_matches_134 rfl (lv_at hl 3 rfl) ?_
                  refine va_get (D := D) (ci := 7) (C := RX6) (T := TX6) (N := 22) hx hb hts iuX6 hown hK.1 (WW_one hR (f := 0) (i := 0) rfl) 0 rfl rfl 16 (by decide) (hts _ q_824) (fun _ h9 => h9) rfl dX6_matches_135 ?_
                  refine lv_iload hx hb dX6_matches_138 (lv_at hl 1 rfl) ?_
                  refine va_iald hx hb hK.1 (WW_one hR (f := 15) (i := 0) rfl) 0 0 rfl rfl g36 dX6_matches_140 ?_
                  refine lv_aload_n hx hb dX6_matches_141 rfl (lv_at hl 3 rfl) ?_
                  refine va_get (D := D) (ci := 7) (C := RX6) (T := TX6) (N := 22) hx hb hts iuX6 hown hK.1 (WW_one hR (f := 0) (i := 0) rfl) 0 rfl rfl 16 (by decide) (hts _ q_824) (fun _ h9 => h9) rfl dX6_matches_142 ?_
                  refine lv_iload_n hx hb dX6_matches_145 rfl (lv_at hl 4 rfl) ?_
                  refine va_iald hx hb hK.1 (WW_one hR (f := 15) (i := 0) rfl) 0 0 rfl rfl g3 dX6_matches_146 ?_
                  refine lv_icmp_ge (tgt := 160) hx hb dX6_matches_147 (by decide) (fun c41 => ?_) (fun c41 => ?_)
                  · have hf := if_of_pos hf c41
                    refine lv_aload_n hx hb dX6_matches_160 rfl (lv_at hl 3 rfl) ?_
                    refine va_get (D := D) (ci := 7) (C := RX6) (T := TX6) (N := 22) hx hb hts iuX6 hown hK.1 (WW_one hR (f := 0) (i := 0) rfl) 0 rfl rfl 16 (by decide) (hts _ q_824) (fun _ h9 => h9) rfl dX6_matches_161 ?_
                    refine lv_iload_n hx hb dX6_matches_164 rfl (lv_at hl 4 rfl) ?_
                    refine va_iald hx hb hK.1 (WW_one hR (f := 15) (i := 0) rfl) 0 0 rfl rfl g3 dX6_matches_165 ?_
                    refine lv_topi (fun x42 hx42 => ?_)
                    have hf := kst_eq hx42 hf
                    refine lv_istore (lv' := [(5, .int x42), (3, .int 0), (4, .int q7), (2, .int v2), (0, .ref (ad 0 0)), (1, .int v1)]) hx hb dX6_matches_166 hl (by decide) rfl (fun ls hl => ?_)
                    refine lv_aload_n hx hb dX6_matches_168 rfl (lv_at hl 4 rfl) ?_
                    refine lv_aload_n hx hb dX6_matches_169 rfl (lv_at hl 4 rfl) ?_
                    refine va_get (D := D) (ci := 7) (C := RX6) (T := TX6) (N := 22) hx hb hts iuX6 hown hK.1 (WW_one hR (f := 0) (i := 0) rfl) 0 rfl rfl 14 (by decide) (hts _ q_822) (fun _ h9 => h9) rfl dX6_matches_170 ?_
                    refine lv_iload_n hx hb dX6_matches_173 rfl (lv_at hl 5 rfl) ?_
                    refine va_zald hx hb hK.1 (WW_one hR (f := 13) (i := 0) rfl) 0 2 rfl rfl g3 dX6_matches_174 ?_
                    refine lv_if_eq (tgt := 187) hx hb dX6_matches_175 (by decide) (fun c43 => ?_) (fun c43 => ?_)
                    · have hf := if_of_pos hf c43
                      refine lv_aload_n hx hb dX6_matches_187 rfl (lv_at hl 4 rfl) ?_
                      refine va_get (D := D) (ci := 7) (C := RX6) (T := TX6) (N := 22) hx hb hts iuX6 hown hK.1 (WW_one hR (f := 0) (i := 0) rfl) 0 rfl rfl 12 (by decide) (hts _ q_820) (fun _ h9 => h9) rfl dX6_matches_188 ?_
                      refine lv_iload hx hb dX6_matches_191 (lv_at hl 2 rfl) ?_
                      refine va_iald hx hb hK.1 (WW_one hR (f := 11) (i := 0) rfl) 0 0 rfl rfl g36 dX6_matches_193 ?_
                      refine lv_aload_n hx hb dX6_matches_194 rfl (lv_at hl 4 rfl) ?_
                      refine va_get (D := D) (ci := 7) (C := RX6) (T := TX6) (N := 22) hx hb hts iuX6 hown hK.1 (WW_one hR (f := 0) (i := 0) rfl) 0 rfl rfl 14 (by decide) (hts _ q_822) (fun _ h9 => h9) rfl dX6_matches_195 ?_
                      refine lv_iload_n hx hb dX6_matches_198 rfl (lv_at hl 5 rfl) ?_
                      refine va_zald hx hb hK.1 (WW_one hR (f := 13) (i := 0) rfl) 0 2 rfl rfl g3 dX6_matches_199 ?_
                      refine lv_if_eq (tgt := 213) hx hb dX6_matches_200 (by decide) (fun c44 => ?_) (fun c44 => ?_)
                      · have hf := if_of_pos hf c44
                        refine lv_aload_n hx hb dX6_matches_213 rfl (lv_at hl 4 rfl) ?_
                        refine va_get (D := D) (ci := 7) (C := RX6) (T := TX6) (N := 22) hx hb hts iuX6 hown hK.1 (WW_one hR (f := 0) (i := 0) rfl) 0 rfl rfl 12 (by decide) (hts _ q_820) (fun _ h9 => h9) rfl dX6_matches_214 ?_
                        refine lv_iload_n hx hb dX6_matches_217 rfl (lv_at hl 5 rfl) ?_
                        refine va_iald hx hb hK.1 (WW_one hR (f := 11) (i := 0) rfl) 0 0 rfl rfl g3 dX6_matches_218 ?_
                        refine lv_iload_n hx hb dX6_matches_219 rfl (lv_at hl 3 rfl) ?_
                        refine lv_iload hx hb dX6_matches_220 (lv_at hl 0 rfl) ?_
                        refine lv_aload_n hx hb dX6_matches_222 rfl (lv_at hl 4 rfl) ?_
                        refine va_get (D := D) (ci := 7) (C := RX6) (T := TX6) (N := 22) hx hb hts iuX6 hown hK.1 (WW_one hR (f := 0) (i := 0) rfl) 0 rfl rfl 15 (by decide) (hts _ q_823) (fun _ h9 => h9) rfl dX6_matches_223 ?_
                        refine lv_iload hx hb dX6_matches_226 (lv_at hl 2 rfl) ?_
                        refine va_iald hx hb hK.1 (WW_one hR (f := 14) (i := 0) rfl) 0 0 rfl rfl g36 dX6_matches_228 ?_
                        obtain ⟨q45, hcq45, hf⟩ := bd_of hf
                        refine kc_v (va_runV (As := [.int (gI σ 11 0 q7.toNatClampNeg), .int (gI σ 11 0 v1.toNatClampNeg), .int v2, .int x42, .int (gI σ 14 0 q7.toNatClampNeg)]) (rest := []) ⟨hx, hb, hml, hown, hts⟩ (mX6_trade l D dA ad σ _ (gI σ 11 0 q7.toNatClampNeg) (gI σ 11 0 v1.toNatClampNeg) v2 x42 (gI σ 14 0 q7.toNatClampNeg) q45 hcq45) (cwV 5 hts gX6_127 rfl rfl rfl (by decide +kernel) ⟨Nat.le_of_ble_eq_true rfl, Nat.le_of_ble_eq_true rfl⟩) (preV_of hR hK (f := 0) (i := 0) rfl rfl rfl _) rfl rfl hl.1 rfl (lv_room (Nat.le_of_ble_eq_true rfl)) dX6_matches_229 ⟨Nat.zero_le _, Nat.zero_le _⟩) hA hR hS (fun H locs hR hS => ?_)
                        refine lv_aload_n hx hb dX6_matches_232 rfl (lv_at hl 4 rfl) ?_
                        refine va_get (D := D) (ci := 7) (C := RX6) (T := TX6) (N := 22) hx hb hts iuX6 hown hK.1 (WW_one hR (f := 0) (i := 0) rfl) 0 rfl rfl 16 (by decide) (hts _ q_824) (fun _ h9 => h9) rfl dX6_matches_233 ?_
                        refine lv_iload hx hb dX6_matches_236 (lv_at hl 2 rfl) ?_
                        refine lv_dup2_11 hx hb dX6_matches_238 rfl rfl ?_
                        refine va_iald hx hb hK.1 (WW_one hR (f := 15) (i := 0) rfl) 0 0 rfl rfl g36 dX6_matches_239 ?_
                        refine lv_iload hx hb dX6_matches_240 (lv_at hl 0 rfl) ?_
                        refine lv_isub hx hb dX6_matches_242 ?_
                        refine ww_iast hx hb hK.1 hR hS 0 (f := 15) (j := 0) rfl rfl rfl g36 dX6_matches_243 (fun H locs hR hS => ?_)
                        have hR := HM_row15 0 (q7.toNatClampNeg) ((gI q45 15 0 q7.toNatClampNeg) - x42) hR
                        refine lv_aload_n hx hb dX6_matches_244 rfl (lv_at hl 4 rfl) ?_
                        refine va_get (D := D) (ci := 7) (C := RX6) (T := TX6) (N := 22) hx hb hts iuX6 hown hK.1 (WW_one hR (f := 0) (i := 0) rfl) 0 rfl rfl 16 (by decide) (hts _ q_824) (fun _ h9 => h9) rfl dX6_matches_245 ?_
                        refine lv_iload_n hx hb dX6_matches_248 rfl (lv_at hl 5 rfl) ?_
                        refine lv_dup2_11 hx hb dX6_matches_249 rfl rfl ?_
                        refine va_iald hx hb hK.1 (WW_one hR (f := 15) (i := 0) rfl) 0 0 rfl rfl g3 dX6_matches_250 ?_
                        refine lv_iload hx hb dX6_matches_251 (lv_at hl 0 rfl) ?_
                        refine lv_isub hx hb dX6_matches_253 ?_
                        refine ww_iast hx hb hK.1 hR hS 0 (f := 15) (j := 0) rfl rfl rfl g3 dX6_matches_254 (fun H locs hR hS => ?_)
                        have hR := HM_row15 0 (v1.toNatClampNeg) ((gI (pI q45 15 0 q7.toNatClampNeg ((gI q45 15 0 q7.toNatClampNeg) - x42)) 15 0 v1.toNatClampNeg) - x42) hR
                        refine lv_goto (tgt := 9) hx hb dX6_matches_255 (by decide) ?_
                        exact ih _ _ _ (pI (pI q45 15 0 q7.toNatClampNeg ((gI q45 15 0 q7.toNatClampNeg) - x42)) 15 0 v1.toNatClampNeg ((gI (pI q45 15 0 q7.toNatClampNeg ((gI q45 15 0 q7.toNatClampNeg) - x42)) 15 0 v1.toNatClampNeg) - x42)) 0 v2 v1 hR hS (lv_sub hl [1, 3, 4, 5] rfl) hf
                      · have hf := if_of_neg hf c44
                        refine lv_aload_n hx hb dX6_matches_203 rfl (lv_at hl 4 rfl) ?_
                        refine va_get (D := D) (ci := 7) (C := RX6) (T := TX6) (N := 22) hx hb hts iuX6 hown hK.1 (WW_one hR (f := 0) (i := 0) rfl) 0 rfl rfl 12 (by decide) (hts _ q_820) (fun _ h9 => h9) rfl dX6_matches_204 ?_
                        refine lv_iload hx hb dX6_matches_207 (lv_at hl 2 rfl) ?_
                        refine va_iald hx hb hK.1 (WW_one hR (f := 11) (i := 0) rfl) 0 0 rfl rfl g36 dX6_matches_209 ?_
                        refine lv_goto (tgt := 219) hx hb dX6_matches_210 (by decide) ?_
                        refine lv_iload_n hx hb dX6_matches_219 rfl (lv_at hl 3 rfl) ?_
                        refine lv_iload hx hb dX6_matches_220 (lv_at hl 0 rfl) ?_
                        refine lv_aload_n hx hb dX6_matches_222 rfl (lv_at hl 4 rfl) ?_
                        refine va_get (D := D) (ci := 7) (C := RX6) (T := TX6) (N := 22) hx hb hts iuX6 hown hK.1 (WW_one hR (f := 0) (i := 0) rfl) 0 rfl rfl 15 (by decide) (hts _ q_823) (fun _ h9 => h9) rfl dX6_matches_223 ?_
                        refine lv_iload hx hb dX6_matches_226 (lv_at hl 2 rfl) ?_
                        refine va_iald hx hb hK.1 (WW_one hR (f := 14) (i := 0) rfl) 0 0 rfl rfl g36 dX6_matches_228 ?_
                        obtain ⟨q46, hcq46, hf⟩ := bd_of hf
                        refine kc_v (va_runV (As := [.int (gI σ 11 0 q7.toNatClampNeg), .int (gI σ 11 0 q7.toNatClampNeg), .int v2, .int x42, .int (gI σ 14 0 q7.toNatClampNeg)]) (rest := []) ⟨hx, hb, hml, hown, hts⟩ (mX6_trade l D dA ad σ _ (gI σ 11 0 q7.toNatClampNeg) (gI σ 11 0 q7.toNatClampNeg) v2 x42 (gI σ 14 0 q7.toNatClampNeg) q46 hcq46) (cwV 5 hts gX6_127 rfl rfl rfl (by decide +kernel) ⟨Nat.le_of_ble_eq_true rfl, Nat.le_of_ble_eq_true rfl⟩) (preV_of hR hK (f := 0) (i := 0) rfl rfl rfl _) rfl rfl hl.1 rfl (lv_room (Nat.le_of_ble_eq_true rfl)) dX6_matches_229 ⟨Nat.zero_le _, Nat.zero_le _⟩) hA hR hS (fun H locs hR hS => ?_)
                        refine lv_aload_n hx hb dX6_matches_232 rfl (lv_at hl 4 rfl) ?_
                        refine va_get (D := D) (ci := 7) (C := RX6) (T := TX6) (N := 22) hx hb hts iuX6 hown hK.1 (WW_one hR (f := 0) (i := 0) rfl) 0 rfl rfl 16 (by decide) (hts _ q_824) (fun _ h9 => h9) rfl dX6_matches_233 ?_
                        refine lv_iload hx hb dX6_matches_236 (lv_at hl 2 rfl) ?_
                        refine lv_dup2_11 hx hb dX6_matches_238 rfl rfl ?_
                        refine va_iald hx hb hK.1 (WW_one hR (f := 15) (i := 0) rfl) 0 0 rfl rfl g36 dX6_matches_239 ?_
                        refine lv_iload hx hb dX6_matches_240 (lv_at hl 0 rfl) ?_
                        refine lv_isub hx hb dX6_matches_242 ?_
                        refine ww_iast hx hb hK.1 hR hS 0 (f := 15) (j := 0) rfl rfl rfl g36 dX6_matches_243 (fun H locs hR hS => ?_)
                        have hR := HM_row15 0 (q7.toNatClampNeg) ((gI q46 15 0 q7.toNatClampNeg) - x42) hR
                        refine lv_aload_n hx hb dX6_matches_244 rfl (lv_at hl 4 rfl) ?_
                        refine va_get (D := D) (ci := 7) (C := RX6) (T := TX6) (N := 22) hx hb hts iuX6 hown hK.1 (WW_one hR (f := 0) (i := 0) rfl) 0 rfl rfl 16 (by decide) (hts _ q_824) (fun _ h9 => h9) rfl dX6_matches_245 ?_
                        refine lv_iload_n hx hb dX6_matches_248 rfl (lv_at hl 5 rfl) ?_
                        refine lv_dup2_11 hx hb dX6_matches_249 rfl rfl ?_
                        refine va_iald hx hb hK.1 (WW_one hR (f := 15) (i := 0) rfl) 0 0 rfl rfl g3 dX6_matches_250 ?_
                        refine lv_iload hx hb dX6_matches_251 (lv_at hl 0 rfl) ?_
                        refine lv_isub hx hb dX6_matches_253 ?_
                        refine ww_iast hx hb hK.1 hR hS 0 (f := 15) (j := 0) rfl rfl rfl g3 dX6_matches_254 (fun H locs hR hS => ?_)
                        have hR := HM_row15 0 (v1.toNatClampNeg) ((gI (pI q46 15 0 q7.toNatClampNeg ((gI q46 15 0 q7.toNatClampNeg) - x42)) 15 0 v1.toNatClampNeg) - x42) hR
                        refine lv_goto (tgt := 9) hx hb dX6_matches_255 (by decide) ?_
                        exact ih _ _ _ (pI (pI q46 15 0 q7.toNatClampNeg ((gI q46 15 0 q7.toNatClampNeg) - x42)) 15 0 v1.toNatClampNeg ((gI (pI q46 15 0 q7.toNatClampNeg ((gI q46 15 0 q7.toNatClampNeg) - x42)) 15 0 v1.toNatClampNeg) - x42)) 0 v2 v1 hR hS (lv_sub hl [1, 3, 4, 5] rfl) hf
                    · have hf := if_of_neg hf c43
                      refine lv_aload_n hx hb dX6_matches_178 rfl (lv_at hl 4 rfl) ?_
                      refine va_get (D := D) (ci := 7) (C := RX6) (T := TX6) (N := 22) hx hb hts iuX6 hown hK.1 (WW_one hR (f := 0) (i := 0) rfl) 0 rfl rfl 12 (by decide) (hts _ q_820) (fun _ h9 => h9) rfl dX6_matches_179 ?_
                      refine lv_iload_n hx hb dX6_matches_182 rfl (lv_at hl 5 rfl) ?_
                      refine va_iald hx hb hK.1 (WW_one hR (f := 11) (i := 0) rfl) 0 0 rfl rfl g3 dX6_matches_183 ?_
                      refine lv_goto (tgt := 194) hx hb dX6_matches_184 (by decide) ?_
                      refine lv_aload_n hx hb dX6_matches_194 rfl (lv_at hl 4 rfl) ?_
                      refine va_get (D := D) (ci := 7) (C := RX6) (T := TX6) (N := 22) hx hb hts iuX6 hown hK.1 (WW_one hR (f := 0) (i := 0) rfl) 0 rfl rfl 14 (by decide) (hts _ q_822) (fun _ h9 => h9) rfl dX6_matches_195 ?_
                      refine lv_iload_n hx hb dX6_matches_198 rfl (lv_at hl 5 rfl) ?_
                      refine va_zald hx hb hK.1 (WW_one hR (f := 13) (i := 0) rfl) 0 2 rfl rfl g3 dX6_matches_199 ?_
                      refine lv_if_eq (tgt := 213) hx hb dX6_matches_200 (by decide) (fun c47 => ?_) (fun c47 => ?_)
                      · have hf := if_of_pos hf c47
                        refine lv_aload_n hx hb dX6_matches_213 rfl (lv_at hl 4 rfl) ?_
                        refine va_get (D := D) (ci := 7) (C := RX6) (T := TX6) (N := 22) hx hb hts iuX6 hown hK.1 (WW_one hR (f := 0) (i := 0) rfl) 0 rfl rfl 12 (by decide) (hts _ q_820) (fun _ h9 => h9) rfl dX6_matches_214 ?_
                        refine lv_iload_n hx hb dX6_matches_217 rfl (lv_at hl 5 rfl) ?_
                        refine va_iald hx hb hK.1 (WW_one hR (f := 11) (i := 0) rfl) 0 0 rfl rfl g3 dX6_matches_218 ?_
                        refine lv_iload_n hx hb dX6_matches_219 rfl (lv_at hl 3 rfl) ?_
                        refine lv_iload hx hb dX6_matches_220 (lv_at hl 0 rfl) ?_
                        refine lv_aload_n hx hb dX6_matches_222 rfl (lv_at hl 4 rfl) ?_
                        refine va_get (D := D) (ci := 7) (C := RX6) (T := TX6) (N := 22) hx hb hts iuX6 hown hK.1 (WW_one hR (f := 0) (i := 0) rfl) 0 rfl rfl 15 (by decide) (hts _ q_823) (fun _ h9 => h9) rfl dX6_matches_223 ?_
                        refine lv_iload hx hb dX6_matches_226 (lv_at hl 2 rfl) ?_
                        refine va_iald hx hb hK.1 (WW_one hR (f := 14) (i := 0) rfl) 0 0 rfl rfl g36 dX6_matches_228 ?_
                        obtain ⟨q48, hcq48, hf⟩ := bd_of hf
                        refine kc_v (va_runV (As := [.int (gI σ 11 0 v1.toNatClampNeg), .int (gI σ 11 0 v1.toNatClampNeg), .int v2, .int x42, .int (gI σ 14 0 q7.toNatClampNeg)]) (rest := []) ⟨hx, hb, hml, hown, hts⟩ (mX6_trade l D dA ad σ _ (gI σ 11 0 v1.toNatClampNeg) (gI σ 11 0 v1.toNatClampNeg) v2 x42 (gI σ 14 0 q7.toNatClampNeg) q48 hcq48) (cwV 5 hts gX6_127 rfl rfl rfl (by decide +kernel) ⟨Nat.le_of_ble_eq_true rfl, Nat.le_of_ble_eq_true rfl⟩) (preV_of hR hK (f := 0) (i := 0) rfl rfl rfl _) rfl rfl hl.1 rfl (lv_room (Nat.le_of_ble_eq_true rfl)) dX6_matches_229 ⟨Nat.zero_le _, Nat.zero_le _⟩) hA hR hS (fun H locs hR hS => ?_)
                        refine lv_aload_n hx hb dX6_matches_232 rfl (lv_at hl 4 rfl) ?_
                        refine va_get (D := D) (ci := 7) (C := RX6) (T := TX6) (N := 22) hx hb hts iuX6 hown hK.1 (WW_one hR (f := 0) (i := 0) rfl) 0 rfl rfl 16 (by decide) (hts _ q_824) (fun _ h9 => h9) rfl dX6_matches_233 ?_
                        refine lv_iload hx hb dX6_matches_236 (lv_at hl 2 rfl) ?_
                        refine lv_dup2_11 hx hb dX6_matches_238 rfl rfl ?_
                        refine va_iald hx hb hK.1 (WW_one hR (f := 15) (i := 0) rfl) 0 0 rfl rfl g36 dX6_matches_239 ?_
                        refine lv_iload hx hb dX6_matches_240 (lv_at hl 0 rfl) ?_
                        refine lv_isub hx hb dX6_matches_242 ?_
                        refine ww_iast hx hb hK.1 hR hS 0 (f := 15) (j := 0) rfl rfl rfl g36 dX6_matches_243 (fun H locs hR hS => ?_)
                        have hR := HM_row15 0 (q7.toNatClampNeg) ((gI q48 15 0 q7.toNatClampNeg) - x42) hR
                        refine lv_aload_n hx hb dX6_matches_244 rfl (lv_at hl 4 rfl) ?_
                        refine va_get (D := D) (ci := 7) (C := RX6) (T := TX6) (N := 22) hx hb hts iuX6 hown hK.1 (WW_one hR (f := 0) (i := 0) rfl) 0 rfl rfl 16 (by decide) (hts _ q_824) (fun _ h9 => h9) rfl dX6_matches_245 ?_
                        refine lv_iload_n hx hb dX6_matches_248 rfl (lv_at hl 5 rfl) ?_
                        refine lv_dup2_11 hx hb dX6_matches_249 rfl rfl ?_
                        refine va_iald hx hb hK.1 (WW_one hR (f := 15) (i := 0) rfl) 0 0 rfl rfl g3 dX6_matches_250 ?_
                        refine lv_iload hx hb dX6_matches_251 (lv_at hl 0 rfl) ?_
                        refine lv_isub hx hb dX6_matches_253 ?_
                        refine ww_iast hx hb hK.1 hR hS 0 (f := 15) (j := 0) rfl rfl rfl g3 dX6_matches_254 (fun H locs hR hS => ?_)
                        have hR := HM_row15 0 (v1.toNatClampNeg) ((gI (pI q48 15 0 q7.toNatClampNeg ((gI q48 15 0 q7.toNatClampNeg) - x42)) 15 0 v1.toNatClampNeg) - x42) hR
                        refine lv_goto (tgt := 9) hx hb dX6_matches_255 (by decide) ?_
                        exact ih _ _ _ (pI (pI q48 15 0 q7.toNatClampNeg ((gI q48 15 0 q7.toNatClampNeg) - x42)) 15 0 v1.toNatClampNeg ((gI (pI q48 15 0 q7.toNatClampNeg ((gI q48 15 0 q7.toNatClampNeg) - x42)) 15 0 v1.toNatClampNeg) - x42)) 0 v2 v1 hR hS (lv_sub hl [1, 3, 4, 5] rfl) hf
                      · have hf := if_of_neg hf c47
                        refine lv_aload_n hx hb dX6_matches_203 rfl (lv_at hl 4 rfl) ?_
                        refine va_get (D := D) (ci := 7) (C := RX6) (T := TX6) (N := 22) hx hb hts iuX6 hown hK.1 (WW_one hR (f := 0) (i := 0) rfl) 0 rfl rfl 12 (by decide) (hts _ q_820) (fun _ h9 => h9) rfl dX6_matches_204 ?_
                        refine lv_iload hx hb dX6_matches_207 (lv_at hl 2 rfl) ?_
                        refine va_iald hx hb hK.1 (WW_one hR (f := 11) (i := 0) rfl) 0 0 rfl rfl g36 dX6_matches_209 ?_
                        refine lv_goto (tgt := 219) hx hb dX6_matches_210 (by decide) ?_
                        refine lv_iload_n hx hb dX6_matches_219 rfl (lv_at hl 3 rfl) ?_
                        refine lv_iload hx hb dX6_matches_220 (lv_at hl 0 rfl) ?_
                        refine lv_aload_n hx hb dX6_matches_222 rfl (lv_at hl 4 rfl) ?_
                        refine va_get (D := D) (ci := 7) (C := RX6) (T := TX6) (N := 22) hx hb hts iuX6 hown hK.1 (WW_one hR (f := 0) (i := 0) rfl) 0 rfl rfl 15 (by decide) (hts _ q_823) (fun _ h9 => h9) rfl dX6_matches_223 ?_
                        refine lv_iload hx hb dX6_matches_226 (lv_at hl 2 rfl) ?_
                        refine va_iald hx hb hK.1 (WW_one hR (f := 14) (i := 0) rfl) 0 0 rfl rfl g36 dX6_matches_228 ?_
                        obtain ⟨q49, hcq49, hf⟩ := bd_of hf
                        refine kc_v (va_runV (As := [.int (gI σ 11 0 v1.toNatClampNeg), .int (gI σ 11 0 q7.toNatClampNeg), .int v2, .int x42, .int (gI σ 14 0 q7.toNatClampNeg)]) (rest := []) ⟨hx, hb, hml, hown, hts⟩ (mX6_trade l D dA ad σ _ (gI σ 11 0 v1.toNatClampNeg) (gI σ 11 0 q7.toNatClampNeg) v2 x42 (gI σ 14 0 q7.toNatClampNeg) q49 hcq49) (cwV 5 hts gX6_127 rfl rfl rfl (by decide +kernel) ⟨Nat.le_of_ble_eq_true rfl, Nat.le_of_ble_eq_true rfl⟩) (preV_of hR hK (f := 0) (i := 0) rfl rfl rfl _) rfl rfl hl.1 rfl (lv_room (Nat.le_of_ble_eq_true rfl)) dX6_matches_229 ⟨Nat.zero_le _, Nat.zero_le _⟩) hA hR hS (fun H locs hR hS => ?_)
                        refine lv_aload_n hx hb dX6_matches_232 rfl (lv_at hl 4 rfl) ?_
                        refine va_get (D := D) (ci := 7) (C := RX6) (T := TX6) (N := 22) hx hb hts iuX6 hown hK.1 (WW_one hR (f := 0) (i := 0) rfl) 0 rfl rfl 16 (by decide) (hts _ q_824) (fun _ h9 => h9) rfl dX6_matches_233 ?_
                        refine lv_iload hx hb dX6_matches_236 (lv_at hl 2 rfl) ?_
                        refine lv_dup2_11 hx hb dX6_matches_238 rfl rfl ?_
                        refine va_iald hx hb hK.1 (WW_one hR (f := 15) (i := 0) rfl) 0 0 rfl rfl g36 dX6_matches_239 ?_
                        refine lv_iload hx hb dX6_matches_240 (lv_at hl 0 rfl) ?_
                        refine lv_isub hx hb dX6_matches_242 ?_
                        refine ww_iast hx hb hK.1 hR hS 0 (f := 15) (j := 0) rfl rfl rfl g36 dX6_matches_243 (fun H locs hR hS => ?_)
                        have hR := HM_row15 0 (q7.toNatClampNeg) ((gI q49 15 0 q7.toNatClampNeg) - x42) hR
                        refine lv_aload_n hx hb dX6_matches_244 rfl (lv_at hl 4 rfl) ?_
                        refine va_get (D := D) (ci := 7) (C := RX6) (T := TX6) (N := 22) hx hb hts iuX6 hown hK.1 (WW_one hR (f := 0) (i := 0) rfl) 0 rfl rfl 16 (by decide) (hts _ q_824) (fun _ h9 => h9) rfl dX6_matches_245 ?_
                        refine lv_iload_n hx hb dX6_matches_248 rfl (lv_at hl 5 rfl) ?_
                        refine lv_dup2_11 hx hb dX6_matches_249 rfl rfl ?_
                        refine va_iald hx hb hK.1 (WW_one hR (f := 15) (i := 0) rfl) 0 0 rfl rfl g3 dX6_matches_250 ?_
                        refine lv_iload hx hb dX6_matches_251 (lv_at hl 0 rfl) ?_
                        refine lv_isub hx hb dX6_matches_253 ?_
                        refine ww_iast hx hb hK.1 hR hS 0 (f := 15) (j := 0) rfl rfl rfl g3 dX6_matches_254 (fun H locs hR hS => ?_)
                        have hR := HM_row15 0 (v1.toNatClampNeg) ((gI (pI q49 15 0 q7.toNatClampNeg ((gI q49 15 0 q7.toNatClampNeg) - x42)) 15 0 v1.toNatClampNeg) - x42) hR
                        refine lv_goto (tgt := 9) hx hb dX6_matches_255 (by decide) ?_
                        exact ih _ _ _ (pI (pI q49 15 0 q7.toNatClampNeg ((gI q49 15 0 q7.toNatClampNeg) - x42)) 15 0 v1.toNatClampNeg ((gI (pI q49 15 0 q7.toNatClampNeg ((gI q49 15 0 q7.toNatClampNeg) - x42)) 15 0 v1.toNatClampNeg) - x42)) 0 v2 v1 hR hS (lv_sub hl [1, 3, 4, 5] rfl) hf
                  · have hf := if_of_neg hf c41
                    refine lv_aload_n hx hb dX6_matches_150 rfl (lv_at hl 3 rfl) ?_
                    refine va_get (D := D) (ci := 7) (C := RX6) (T := TX6) (N := 22) hx hb hts iuX6 hown hK.1 (WW_one hR (f := 0) (i := 0) rfl) 0 rfl rfl 16 (by decide) (hts _ q_824) (fun _ h9 => h9) rfl dX6_matches_151 ?_
                    refine lv_iload hx hb dX6_matches_154 (lv_at hl 1 rfl) ?_
                    refine va_iald hx hb hK.1 (WW_one hR (f := 15) (i := 0) rfl) 0 0 rfl rfl g36 dX6_matches_156 ?_
                    refine lv_goto (tgt := 166) hx hb dX6_matches_157 (by decide) ?_
                    refine lv_topi (fun x50 hx50 => ?_)
                    have hf := kst_eq hx50 hf
                    refine lv_istore (lv' := [(5, .int x50), (3, .int 0), (4, .int q7), (2, .int v2), (0, .ref (ad 0 0)), (1, .int v1)]) hx hb dX6_matches_166 hl (by decide) rfl (fun ls hl => ?_)
                    refine lv_aload_n hx hb dX6_matches_168 rfl (lv_at hl 4 rfl) ?_
                    refine lv_aload_n hx hb dX6_matches_169 rfl (lv_at hl 4 rfl) ?_
                    refine va_get (D := D) (ci := 7) (C := RX6) (T := TX6) (N := 22) hx hb hts iuX6 hown hK.1 (WW_one hR (f := 0) (i := 0) rfl) 0 rfl rfl 14 (by decide) (hts _ q_822) (fun _ h9 => h9) rfl dX6_matches_170 ?_
                    refine lv_iload_n hx hb dX6_matches_173 rfl (lv_at hl 5 rfl) ?_
                    refine va_zald hx hb hK.1 (WW_one hR (f := 13) (i := 0) rfl) 0 2 rfl rfl g3 dX6_matches_174 ?_
                    refine lv_if_eq (tgt := 187) hx hb dX6_matches_175 (by decide) (fun c51 => ?_) (fun c51 => ?_)
                    · have hf := if_of_pos hf c51
                      refine lv_aload_n hx hb dX6_matches_187 rfl (lv_at hl 4 rfl) ?_
                      refine va_get (D := D) (ci := 7) (C := RX6) (T := TX6) (N := 22) hx hb hts iuX6 hown hK.1 (WW_one hR (f := 0) (i := 0) rfl) 0 rfl rfl 12 (by decide) (hts _ q_820) (fun _ h9 => h9) rfl dX6_matches_188 ?_
                      refine lv_iload hx hb dX6_matches_191 (lv_at hl 2 rfl) ?_
                      refine va_iald hx hb hK.1 (WW_one hR (f := 11) (i := 0) rfl) 0 0 rfl rfl g36 dX6_matches_193 ?_
                      refine lv_aload_n hx hb dX6_matches_194 rfl (lv_at hl 4 rfl) ?_
                      refine va_get (D := D) (ci := 7) (C := RX6) (T := TX6) (N := 22) hx hb hts iuX6 hown hK.1 (WW_one hR (f := 0) (i := 0) rfl) 0 rfl rfl 14 (by decide) (hts _ q_822) (fun _ h9 => h9) rfl dX6_matches_195 ?_
                      refine lv_iload_n hx hb dX6_matches_198 rfl (lv_at hl 5 rfl) ?_
                      refine va_zald hx hb hK.1 (WW_one hR (f := 13) (i := 0) rfl) 0 2 rfl rfl g3 dX6_matches_199 ?_
                      refine lv_if_eq (tgt := 213) hx hb dX6_matches_200 (by decide) (fun c52 => ?_) (fun c52 => ?_)
                      · have hf := if_of_pos hf c52
                        refine lv_aload_n hx hb dX6_matches_213 rfl (lv_at hl 4 rfl) ?_
                        refine va_get (D := D) (ci := 7) (C := RX6) (T := TX6) (N := 22) hx hb hts iuX6 hown hK.1 (WW_one hR (f := 0) (i := 0) rfl) 0 rfl rfl 12 (by decide) (hts _ q_820) (fun _ h9 => h9) rfl dX6_matches_214 ?_
                        refine lv_iload_n hx hb dX6_matches_217 rfl (lv_at hl 5 rfl) ?_
                        refine va_iald hx hb hK.1 (WW_one hR (f := 11) (i := 0) rfl) 0 0 rfl rfl g3 dX6_matches_218 ?_
                        refine lv_iload_n hx hb dX6_matches_219 rfl (lv_at hl 3 rfl) ?_
                        refine lv_iload hx hb dX6_matches_220 (lv_at hl 0 rfl) ?_
                        refine lv_aload_n hx hb dX6_matches_222 rfl (lv_at hl 4 rfl) ?_
                        refine va_get (D := D) (ci := 7) (C := RX6) (T := TX6) (N := 22) hx hb hts iuX6 hown hK.1 (WW_one hR (f := 0) (i := 0) rfl) 0 rfl rfl 15 (by decide) (hts _ q_823) (fun _ h9 => h9) rfl dX6_matches_223 ?_
                        refine lv_iload hx hb dX6_matches_226 (lv_at hl 2 rfl) ?_
                        refine va_iald hx hb hK.1 (WW_one hR (f := 14) (i := 0) rfl) 0 0 rfl rfl g36 dX6_matches_228 ?_
                        obtain ⟨q53, hcq53, hf⟩ := bd_of hf
                        refine kc_v (va_runV (As := [.int (gI σ 11 0 q7.toNatClampNeg), .int (gI σ 11 0 v1.toNatClampNeg), .int v2, .int x50, .int (gI σ 14 0 q7.toNatClampNeg)]) (rest := []) ⟨hx, hb, hml, hown, hts⟩ (mX6_trade l D dA ad σ _ (gI σ 11 0 q7.toNatClampNeg) (gI σ 11 0 v1.toNatClampNeg) v2 x50 (gI σ 14 0 q7.toNatClampNeg) q53 hcq53) (cwV 5 hts gX6_127 rfl rfl rfl (by decide +kernel) ⟨Nat.le_of_ble_eq_true rfl, Nat.le_of_ble_eq_true rfl⟩) (preV_of hR hK (f := 0) (i := 0) rfl rfl rfl _) rfl rfl hl.1 rfl (lv_room (Nat.le_of_ble_eq_true rfl)) dX6_matches_229 ⟨Nat.zero_le _, Nat.zero_le _⟩) hA hR hS (fun H locs hR hS => ?_)
                        refine lv_aload_n hx hb dX6_matches_232 rfl (lv_at hl 4 rfl) ?_
                        refine va_get (D := D) (ci := 7) (C := RX6) (T := TX6) (N := 22) hx hb hts iuX6 hown hK.1 (WW_one hR (f := 0) (i := 0) rfl) 0 rfl rfl 16 (by decide) (hts _ q_824) (fun _ h9 => h9) rfl dX6_matches_233 ?_
                        refine lv_iload hx hb dX6_matches_236 (lv_at hl 2 rfl) ?_
                        refine lv_dup2_11 hx hb dX6_matches_238 rfl rfl ?_
                        refine va_iald hx hb hK.1 (WW_one hR (f := 15) (i := 0) rfl) 0 0 rfl rfl g36 dX6_matches_239 ?_
                        refine lv_iload hx hb dX6_matches_240 (lv_at hl 0 rfl) ?_
                        refine lv_isub hx hb dX6_matches_242 ?_
                        refine ww_iast hx hb hK.1 hR hS 0 (f := 15) (j := 0) rfl rfl rfl g36 dX6_matches_243 (fun H locs hR hS => ?_)
                        have hR := HM_row15 0 (q7.toNatClampNeg) ((gI q53 15 0 q7.toNatClampNeg) - x50) hR
                        refine lv_aload_n hx hb dX6_matches_244 rfl (lv_at hl 4 rfl) ?_
                        refine va_get (D := D) (ci := 7) (C := RX6) (T := TX6) (N := 22) hx hb hts iuX6 hown hK.1 (WW_one hR (f := 0) (i := 0) rfl) 0 rfl rfl 16 (by decide) (hts _ q_824) (fun _ h9 => h9) rfl dX6_matches_245 ?_
                        refine lv_iload_n hx hb dX6_matches_248 rfl (lv_at hl 5 rfl) ?_
                        refine lv_dup2_11 hx hb dX6_matches_249 rfl rfl ?_
                        refine va_iald hx hb hK.1 (WW_one hR (f := 15) (i := 0) rfl) 0 0 rfl rfl g3 dX6_matches_250 ?_
                        refine lv_iload hx hb dX6_matches_251 (lv_at hl 0 rfl) ?_
                        refine lv_isub hx hb dX6_matches_253 ?_
                        refine ww_iast hx hb hK.1 hR hS 0 (f := 15) (j := 0) rfl rfl rfl g3 dX6_matches_254 (fun H locs hR hS => ?_)
                        have hR := HM_row15 0 (v1.toNatClampNeg) ((gI (pI q53 15 0 q7.toNatClampNeg ((gI q53 15 0 q7.toNatClampNeg) - x50)) 15 0 v1.toNatClampNeg) - x50) hR
                        refine lv_goto (tgt := 9) hx hb dX6_matches_255 (by decide) ?_
                        exact ih _ _ _ (pI (pI q53 15 0 q7.toNatClampNeg ((gI q53 15 0 q7.toNatClampNeg) - x50)) 15 0 v1.toNatClampNeg ((gI (pI q53 15 0 q7.toNatClampNeg ((gI q53 15 0 q7.toNatClampNeg) - x50)) 15 0 v1.toNatClampNeg) - x50)) 0 v2 v1 hR hS (lv_sub hl [1, 3, 4, 5] rfl) hf
                      · have hf := if_of_neg hf c52
                        refine lv_aload_n hx hb dX6_matches_203 rfl (lv_at hl 4 rfl) ?_
                        refine va_get (D := D) (ci := 7) (C := RX6) (T := TX6) (N := 22) hx hb hts iuX6 hown hK.1 (WW_one hR (f := 0) (i := 0) rfl) 0 rfl rfl 12 (by decide) (hts _ q_820) (fun _ h9 => h9) rfl dX6_matches_204 ?_
                        refine lv_iload hx hb dX6_matches_207 (lv_at hl 2 rfl) ?_
                        refine va_iald hx hb hK.1 (WW_one hR (f := 11) (i := 0) rfl) 0 0 rfl rfl g36 dX6_matches_209 ?_
                        refine lv_goto (tgt := 219) hx hb dX6_matches_210 (by decide) ?_
                        refine lv_iload_n hx hb dX6_matches_219 rfl (lv_at hl 3 rfl) ?_
                        refine lv_iload hx hb dX6_matches_220 (lv_at hl 0 rfl) ?_
                        refine lv_aload_n hx hb dX6_matches_222 rfl (lv_at hl 4 rfl) ?_
                        refine va_get (D := D) (ci := 7) (C := RX6) (T := TX6) (N := 22) hx hb hts iuX6 hown hK.1 (WW_one hR (f := 0) (i := 0) rfl) 0 rfl rfl 15 (by decide) (hts _ q_823) (fun _ h9 => h9) rfl dX6_matches_223 ?_
                        refine lv_iload hx hb dX6_matches_226 (lv_at hl 2 rfl) ?_
                        refine va_iald hx hb hK.1 (WW_one hR (f := 14) (i := 0) rfl) 0 0 rfl rfl g36 dX6_matches_228 ?_
                        obtain ⟨q54, hcq54, hf⟩ := bd_of hf
                        refine kc_v (va_runV (As := [.int (gI σ 11 0 q7.toNatClampNeg), .int (gI σ 11 0 q7.toNatClampNeg), .int v2, .int x50, .int (gI σ 14 0 q7.toNatClampNeg)]) (rest := []) ⟨hx, hb, hml, hown, hts⟩ (mX6_trade l D dA ad σ _ (gI σ 11 0 q7.toNatClampNeg) (gI σ 11 0 q7.toNatClampNeg) v2 x50 (gI σ 14 0 q7.toNatClampNeg) q54 hcq54) (cwV 5 hts gX6_127 rfl rfl rfl (by decide +kernel) ⟨Nat.le_of_ble_eq_true rfl, Nat.le_of_ble_eq_true rfl⟩) (preV_of hR hK (f := 0) (i := 0) rfl rfl rfl _) rfl rfl hl.1 rfl (lv_room (Nat.le_of_ble_eq_true rfl)) dX6_matches_229 ⟨Nat.zero_le _, Nat.zero_le _⟩) hA hR hS (fun H locs hR hS => ?_)
                        refine lv_aload_n hx hb dX6_matches_232 rfl (lv_at hl 4 rfl) ?_
                        refine va_get (D := D) (ci := 7) (C := RX6) (T := TX6) (N := 22) hx hb hts iuX6 hown hK.1 (WW_one hR (f := 0) (i := 0) rfl) 0 rfl rfl 16 (by decide) (hts _ q_824) (fun _ h9 => h9) rfl dX6_matches_233 ?_
                        refine lv_iload hx hb dX6_matches_236 (lv_at hl 2 rfl) ?_
                        refine lv_dup2_11 hx hb dX6_matches_238 rfl rfl ?_
                        refine va_iald hx hb hK.1 (WW_one hR (f := 15) (i := 0) rfl) 0 0 rfl rfl g36 dX6_matches_239 ?_
                        refine lv_iload hx hb dX6_matches_240 (lv_at hl 0 rfl) ?_
                        refine lv_isub hx hb dX6_matches_242 ?_
                        refine ww_iast hx hb hK.1 hR hS 0 (f := 15) (j := 0) rfl rfl rfl g36 dX6_matches_243 (fun H locs hR hS => ?_)
                        have hR := HM_row15 0 (q7.toNatClampNeg) ((gI q54 15 0 q7.toNatClampNeg) - x50) hR
                        refine lv_aload_n hx hb dX6_matches_244 rfl (lv_at hl 4 rfl) ?_
                        refine va_get (D := D) (ci := 7) (C := RX6) (T := TX6) (N := 22) hx hb hts iuX6 hown hK.1 (WW_one hR (f := 0) (i := 0) rfl) 0 rfl rfl 16 (by decide) (hts _ q_824) (fun _ h9 => h9) rfl dX6_matches_245 ?_
                        refine lv_iload_n hx hb dX6_matches_248 rfl (lv_at hl 5 rfl) ?_
                        refine lv_dup2_11 hx hb dX6_matches_249 rfl rfl ?_
                        refine va_iald hx hb hK.1 (WW_one hR (f := 15) (i := 0) rfl) 0 0 rfl rfl g3 dX6_matches_250 ?_
                        refine lv_iload hx hb dX6_matches_251 (lv_at hl 0 rfl) ?_
                        refine lv_isub hx hb dX6_matches_253 ?_
                        refine ww_iast hx hb hK.1 hR hS 0 (f := 15) (j := 0) rfl rfl rfl g3 dX6_matches_254 (fun H locs hR hS => ?_)
                        have hR := HM_row15 0 (v1.toNatClampNeg) ((gI (pI q54 15 0 q7.toNatClampNeg ((gI q54 15 0 q7.toNatClampNeg) - x50)) 15 0 v1.toNatClampNeg) - x50) hR
                        refine lv_goto (tgt := 9) hx hb dX6_matches_255 (by decide) ?_
                        exact ih _ _ _ (pI (pI q54 15 0 q7.toNatClampNeg ((gI q54 15 0 q7.toNatClampNeg) - x50)) 15 0 v1.toNatClampNeg ((gI (pI q54 15 0 q7.toNatClampNeg ((gI q54 15 0 q7.toNatClampNeg) - x50)) 15 0 v1.toNatClampNeg) - x50)) 0 v2 v1 hR hS (lv_sub hl [1, 3, 4, 5] rfl) hf
                    · have hf := if_of_neg hf c51
                      refine lv_aload_n hx hb dX6_matches_178 rfl (lv_at hl 4 rfl) ?_
                      refine va_get (D := D) (ci := 7) (C := RX6) (T := TX6) (N := 22) hx hb hts iuX6 hown hK.1 (WW_one hR (f := 0) (i := 0) rfl) 0 rfl rfl 12 (by decide) (hts _ q_820) (fun _ h9 => h9) rfl dX6_matches_179 ?_
                      refine lv_iload_n hx hb dX6_matches_182 rfl (lv_at hl 5 rfl) ?_
                      refine va_iald hx hb hK.1 (WW_one hR (f := 11) (i := 0) rfl) 0 0 rfl rfl g3 dX6_matches_183 ?_
                      refine lv_goto (tgt := 194) hx hb dX6_matches_184 (by decide) ?_
                      refine lv_aload_n hx hb dX6_matches_194 rfl (lv_at hl 4 rfl) ?_
                      refine va_get (D := D) (ci := 7) (C := RX6) (T := TX6) (N := 22) hx hb hts iuX6 hown hK.1 (WW_one hR (f := 0) (i := 0) rfl) 0 rfl rfl 14 (by decide) (hts _ q_822) (fun _ h9 => h9) rfl dX6_matches_195 ?_
                      refine lv_iload_n hx hb dX6_matches_198 rfl (lv_at hl 5 rfl) ?_
                      refine va_zald hx hb hK.1 (WW_one hR (f := 13) (i := 0) rfl) 0 2 rfl rfl g3 dX6_matches_199 ?_
                      refine lv_if_eq (tgt := 213) hx hb dX6_matches_200 (by decide) (fun c55 => ?_) (fun c55 => ?_)
                      · have hf := if_of_pos hf c55
                        refine lv_aload_n hx hb dX6_matches_213 rfl (lv_at hl 4 rfl) ?_
                        refine va_get (D := D) (ci := 7) (C := RX6) (T := TX6) (N := 22) hx hb hts iuX6 hown hK.1 (WW_one hR (f := 0) (i := 0) rfl) 0 rfl rfl 12 (by decide) (hts _ q_820) (fun _ h9 => h9) rfl dX6_matches_214 ?_
                        refine lv_iload_n hx hb dX6_matches_217 rfl (lv_at hl 5 rfl) ?_
                        refine va_iald hx hb hK.1 (WW_one hR (f := 11) (i := 0) rfl) 0 0 rfl rfl g3 dX6_matches_218 ?_
                        refine lv_iload_n hx hb dX6_matches_219 rfl (lv_at hl 3 rfl) ?_
                        refine lv_iload hx hb dX6_matches_220 (lv_at hl 0 rfl) ?_
                        refine lv_aload_n hx hb dX6_matches_222 rfl (lv_at hl 4 rfl) ?_
                        refine va_get (D := D) (ci := 7) (C := RX6) (T := TX6) (N := 22) hx hb hts iuX6 hown hK.1 (WW_one hR (f := 0) (i := 0) rfl) 0 rfl rfl 15 (by decide) (hts _ q_823) (fun _ h9 => h9) rfl dX6_matches_223 ?_
                        refine lv_iload hx hb dX6_matches_226 (lv_at hl 2 rfl) ?_
                        refine va_iald hx hb hK.1 (WW_one hR (f := 14) (i := 0) rfl) 0 0 rfl rfl g36 dX6_matches_228 ?_
                        obtain ⟨q56, hcq56, hf⟩ := bd_of hf
                        refine kc_v (va_runV (As := [.int (gI σ 11 0 v1.toNatClampNeg), .int (gI σ 11 0 v1.toNatClampNeg), .int v2, .int x50, .int (gI σ 14 0 q7.toNatClampNeg)]) (rest := []) ⟨hx, hb, hml, hown, hts⟩ (mX6_trade l D dA ad σ _ (gI σ 11 0 v1.toNatClampNeg) (gI σ 11 0 v1.toNatClampNeg) v2 x50 (gI σ 14 0 q7.toNatClampNeg) q56 hcq56) (cwV 5 hts gX6_127 rfl rfl rfl (by decide +kernel) ⟨Nat.le_of_ble_eq_true rfl, Nat.le_of_ble_eq_true rfl⟩) (preV_of hR hK (f := 0) (i := 0) rfl rfl rfl _) rfl rfl hl.1 rfl (lv_room (Nat.le_of_ble_eq_true rfl)) dX6_matches_229 ⟨Nat.zero_le _, Nat.zero_le _⟩) hA hR hS (fun H locs hR hS => ?_)
                        refine lv_aload_n hx hb dX6_matches_232 rfl (lv_at hl 4 rfl) ?_
                        refine va_get (D := D) (ci := 7) (C := RX6) (T := TX6) (N := 22) hx hb hts iuX6 hown hK.1 (WW_one hR (f := 0) (i := 0) rfl) 0 rfl rfl 16 (by decide) (hts _ q_824) (fun _ h9 => h9) rfl dX6_matches_233 ?_
                        refine lv_iload hx hb dX6_matches_236 (lv_at hl 2 rfl) ?_
                        refine lv_dup2_11 hx hb dX6_matches_238 rfl rfl ?_
                        refine va_iald hx hb hK.1 (WW_one hR (f := 15) (i := 0) rfl) 0 0 rfl rfl g36 dX6_matches_239 ?_
                        refine lv_iload hx hb dX6_matches_240 (lv_at hl 0 rfl) ?_
                        refine lv_isub hx hb dX6_matches_242 ?_
                        refine ww_iast hx hb hK.1 hR hS 0 (f := 15) (j := 0) rfl rfl rfl g36 dX6_matches_243 (fun H locs hR hS => ?_)
                        have hR := HM_row15 0 (q7.toNatClampNeg) ((gI q56 15 0 q7.toNatClampNeg) - x50) hR
                        refine lv_aload_n hx hb dX6_matches_244 rfl (lv_at hl 4 rfl) ?_
                        refine va_get (D := D) (ci := 7) (C := RX6) (T := TX6) (N := 22) hx hb hts iuX6 hown hK.1 (WW_one hR (f := 0) (i := 0) rfl) 0 rfl rfl 16 (by decide) (hts _ q_824) (fun _ h9 => h9) rfl dX6_matches_245 ?_
                        refine lv_iload_n hx hb dX6_matches_248 rfl (lv_at hl 5 rfl) ?_
                        refine lv_dup2_11 hx hb dX6_matches_249 rfl rfl ?_
                        refine va_iald hx hb hK.1 (WW_one hR (f := 15) (i := 0) rfl) 0 0 rfl rfl g3 dX6_matches_250 ?_
                        refine lv_iload hx hb dX6_matches_251 (lv_at hl 0 rfl) ?_
                        refine lv_isub hx hb dX6_matches_253 ?_
                        refine ww_iast hx hb hK.1 hR hS 0 (f := 15) (j := 0) rfl rfl rfl g3 dX6_matches_254 (fun H locs hR hS => ?_)
                        have hR := HM_row15 0 (v1.toNatClampNeg) ((gI (pI q56 15 0 q7.toNatClampNeg ((gI q56 15 0 q7.toNatClampNeg) - x50)) 15 0 v1.toNatClampNeg) - x50) hR
                        refine lv_goto (tgt := 9) hx hb dX6_matches_255 (by decide) ?_
                        exact ih _ _ _ (pI (pI q56 15 0 q7.toNatClampNeg ((gI q56 15 0 q7.toNatClampNeg) - x50)) 15 0 v1.toNatClampNeg ((gI (pI q56 15 0 q7.toNatClampNeg ((gI q56 15 0 q7.toNatClampNeg) - x50)) 15 0 v1.toNatClampNeg) - x50)) 0 v2 v1 hR hS (lv_sub hl [1, 3, 4, 5] rfl) hf
                      · have hf := if_of_neg hf c55
                        refine lv_aload_n hx hb dX6_matches_203 rfl (lv_at hl 4 rfl) ?_
                        refine va_get (D := D) (ci := 7) (C := RX6) (T := TX6) (N := 22) hx hb hts iuX6 hown hK.1 (WW_one hR (f := 0) (i := 0) rfl) 0 rfl rfl 12 (by decide) (hts _ q_820) (fun _ h9 => h9) rfl dX6_matches_204 ?_
                        refine lv_iload hx hb dX6_matches_207 (lv_at hl 2 rfl) ?_
                        refine va_iald hx hb hK.1 (WW_one hR (f := 11) (i := 0) rfl) 0 0 rfl rfl g36 dX6_matches_209 ?_
                        refine lv_goto (tgt := 219) hx hb dX6_matches_210 (by decide) ?_
                        refine lv_iload_n hx hb dX6_matches_219 rfl (lv_at hl 3 rfl) ?_
                        refine lv_iload hx hb dX6_matches_220 (lv_at hl 0 rfl) ?_
                        refine lv_aload_n hx hb dX6_matches_222 rfl (lv_at hl 4 rfl) ?_
                        refine va_get (D := D) (ci := 7) (C := RX6) (T := TX6) (N := 22) hx hb hts iuX6 hown hK.1 (WW_one hR (f := 0) (i := 0) rfl) 0 rfl rfl 15 (by decide) (hts _ q_823) (fun _ h9 => h9) rfl dX6_matches_223 ?_
                        refine lv_iload hx hb dX6_matches_226 (lv_at hl 2 rfl) ?_
                        refine va_iald hx hb hK.1 (WW_one hR (f := 14) (i := 0) rfl) 0 0 rfl rfl g36 dX6_matches_228 ?_
                        obtain ⟨q57, hcq57, hf⟩ := bd_of hf
                        refine kc_v (va_runV (As := [.int (gI σ 11 0 v1.toNatClampNeg), .int (gI σ 11 0 q7.toNatClampNeg), .int v2, .int x50, .int (gI σ 14 0 q7.toNatClampNeg)]) (rest := []) ⟨hx, hb, hml, hown, hts⟩ (mX6_trade l D dA ad σ _ (gI σ 11 0 v1.toNatClampNeg) (gI σ 11 0 q7.toNatClampNeg) v2 x50 (gI σ 14 0 q7.toNatClampNeg) q57 hcq57) (cwV 5 hts gX6_127 rfl rfl rfl (by decide +kernel) ⟨Nat.le_of_ble_eq_true rfl, Nat.le_of_ble_eq_true rfl⟩) (preV_of hR hK (f := 0) (i := 0) rfl rfl rfl _) rfl rfl hl.1 rfl (lv_room (Nat.le_of_ble_eq_true rfl)) dX6_matches_229 ⟨Nat.zero_le _, Nat.zero_le _⟩) hA hR hS (fun H locs hR hS => ?_)
                        refine lv_aload_n hx hb dX6_matches_232 rfl (lv_at hl 4 rfl) ?_
                        refine va_get (D := D) (ci := 7) (C := RX6) (T := TX6) (N := 22) hx hb hts iuX6 hown hK.1 (WW_one hR (f := 0) (i := 0) rfl) 0 rfl rfl 16 (by decide) (hts _ q_824) (fun _ h9 => h9) rfl dX6_matches_233 ?_
                        refine lv_iload hx hb dX6_matches_236 (lv_at hl 2 rfl) ?_
                        refine lv_dup2_11 hx hb dX6_matches_238 rfl rfl ?_
                        refine va_iald hx hb hK.1 (WW_one hR (f := 15) (i := 0) rfl) 0 0 rfl rfl g36 dX6_matches_239 ?_
                        refine lv_iload hx hb dX6_matches_240 (lv_at hl 0 rfl) ?_
                        refine lv_isub hx hb dX6_matches_242 ?_
                        refine ww_iast hx hb hK.1 hR hS 0 (f := 15) (j := 0) rfl rfl rfl g36 dX6_matches_243 (fun H locs hR hS => ?_)
                        have hR := HM_row15 0 (q7.toNatClampNeg) ((gI q57 15 0 q7.toNatClampNeg) - x50) hR
                        refine lv_aload_n hx hb dX6_matches_244 rfl (lv_at hl 4 rfl) ?_
                        refine va_get (D := D) (ci := 7) (C := RX6) (T := TX6) (N := 22) hx hb hts iuX6 hown hK.1 (WW_one hR (f := 0) (i := 0) rfl) 0 rfl rfl 16 (by decide) (hts _ q_824) (fun _ h9 => h9) rfl dX6_matches_245 ?_
                        refine lv_iload_n hx hb dX6_matches_248 rfl (lv_at hl 5 rfl) ?_
                        refine lv_dup2_11 hx hb dX6_matches_249 rfl rfl ?_
                        refine va_iald hx hb hK.1 (WW_one hR (f := 15) (i := 0) rfl) 0 0 rfl rfl g3 dX6_matches_250 ?_
                        refine lv_iload hx hb dX6_matches_251 (lv_at hl 0 rfl) ?_
                        refine lv_isub hx hb dX6_matches_253 ?_
                        refine ww_iast hx hb hK.1 hR hS 0 (f := 15) (j := 0) rfl rfl rfl g3 dX6_matches_254 (fun H locs hR hS => ?_)
                        have hR := HM_row15 0 (v1.toNatClampNeg) ((gI (pI q57 15 0 q7.toNatClampNeg ((gI q57 15 0 q7.toNatClampNeg) - x50)) 15 0 v1.toNatClampNeg) - x50) hR
                        refine lv_goto (tgt := 9) hx hb dX6_matches_255 (by decide) ?_
                        exact ih _ _ _ (pI (pI q57 15 0 q7.toNatClampNeg ((gI q57 15 0 q7.toNatClampNeg) - x50)) 15 0 v1.toNatClampNeg ((gI (pI q57 15 0 q7.toNatClampNeg ((gI q57 15 0 q7.toNatClampNeg) - x50)) 15 0 v1.toNatClampNeg) - x50)) 0 v2 v1 hR hS (lv_sub hl [1, 3, 4, 5] rfl) hf
                · have hf := if_of_neg hf (fun q => q c39)
                  refine lv_aload_n hx hb dX6_matches_119 rfl (lv_at hl 3 rfl) ?_
                  refine va_get (D := D) (ci := 7) (C := RX6) (T := TX6) (N := 22) hx hb hts iuX6 hown hK.1 (WW_one hR (f := 0) (i := 0) rfl) 0 rfl rfl 16 (by decide) (hts _ q_824) (fun _ h9 => h9) rfl dX6_matches_120 ?_
                  refine lv_iload hx hb dX6_matches_123 (lv_at hl 1 rfl) ?_
                  refine lv_iconst (v := 0) hx hb dX6_matches_125 (by decide) ?_
                  refine ww_iast hx hb hK.1 hR hS 0 (f := 15) (j := 0) rfl rfl rfl g36 dX6_matches_126 (fun H locs hR hS => ?_)
                  have hR := HM_row15 0 (q7.toNatClampNeg) 0 hR
                  refine lv_goto (tgt := 255) hx hb dX6_matches_127 (by decide) ?_
                  refine lv_goto (tgt := 9) hx hb dX6_matches_255 (by decide) ?_
                  exact ih _ _ _ (pI σ 15 0 q7.toNatClampNeg 0) 0 v2 v1 hR hS (lv_sub hl [0, 2, 3, 4] rfl) hf
              · have hf := if_of_neg hf c37
                refine lv_goto (tgt := 93) hx hb dX6_matches_74 (by decide) ?_
                refine lv_iconst (v := 1) hx hb dX6_matches_93 (by decide) ?_
                refine lv_goto (tgt := 98) hx hb dX6_matches_94 (by decide) ?_
                refine lv_istore_n (lv' := [(3, .int 1), (4, .int q7), (2, .int v2), (0, .ref (ad 0 0)), (1, .int v1)]) hx hb dX6_matches_98 rfl hl (by decide) rfl (fun ls hl => ?_)
                refine lv_iload_n hx hb dX6_matches_99 rfl (lv_at hl 0 rfl) ?_
                refine lv_if_ne (tgt := 130) hx hb dX6_matches_100 (by decide) (fun c58 => ?_) (fun c58 => absurd c58 (by decide))
                refine lv_iload_n hx hb dX6_matches_130 rfl (lv_at hl 0 rfl) ?_
                refine lv_if_ne (tgt := 255) hx hb dX6_matches_131 (by decide) (fun c59 => ?_) (fun c59 => absurd c59 (by decide))
                refine lv_goto (tgt := 9) hx hb dX6_matches_255 (by decide) ?_
                exact ih _ _ _ σ 1 v2 v1 hR hS (lv_sub hl [0, 2, 3, 4] rfl) hf
        · have hf := if_of_neg hf (fun q => q c6)
          refine lv_iconst (v := 1) hx hb dX6_matches_33 (by decide) ?_
          refine lv_goto (tgt := 38) hx hb dX6_matches_34 (by decide) ?_
          obtain ⟨q60, hcq60, hf⟩ := bd_of hf
          refine kc_i (va_runV (As := [.int v2, .int 1]) (rest := []) ⟨hx, hb, hml, hown, hts⟩ (mX6_bestOf l D dA ad σ _ v2 1 q60 hcq60) (cwV 2 hts gX6_123 rfl rfl rfl (by decide +kernel) ⟨Nat.le_of_ble_eq_true rfl, Nat.le_of_ble_eq_true rfl⟩) (preV_of hR hK (f := 0) (i := 0) rfl rfl rfl _) rfl rfl hl.1 rfl (lv_room (Nat.le_of_ble_eq_true rfl)) dX6_matches_38 ⟨Nat.zero_le _, Nat.zero_le _⟩) hA hR hS (fun H locs hR hS => ?_)
          refine lv_istore (lv' := [(4, .int q60), (3, .int v3), (2, .int v2), (0, .ref (ad 0 0)), (1, .int v1)]) hx hb dX6_matches_41 hl (by decide) rfl (fun ls hl => ?_)
          refine lv_iload hx hb dX6_matches_43 (lv_at hl 0 rfl) ?_
          refine lv_iconst (v := (-1)) hx hb dX6_matches_45 (by decide) ?_
          refine lv_icmp_eq (tgt := 93) hx hb dX6_matches_46 (by decide) (fun c61 => ?_) (fun c61 => ?_)
          · have hf := if_of_pos hf c61
            refine lv_iconst (v := 1) hx hb dX6_matches_93 (by decide) ?_
            refine lv_goto (tgt := 98) hx hb dX6_matches_94 (by decide) ?_
            refine lv_istore_n (lv' := [(3, .int 1), (4, .int q60), (2, .int v2), (0, .ref (ad 0 0)), (1, .int v1)]) hx hb dX6_matches_98 rfl hl (by decide) rfl (fun ls hl => ?_)
            refine lv_iload_n hx hb dX6_matches_99 rfl (lv_at hl 0 rfl) ?_
            refine lv_if_ne (tgt := 130) hx hb dX6_matches_100 (by decide) (fun c62 => ?_) (fun c62 => absurd c62 (by decide))
            refine lv_iload_n hx hb dX6_matches_130 rfl (lv_at hl 0 rfl) ?_
            refine lv_if_ne (tgt := 255) hx hb dX6_matches_131 (by decide) (fun c63 => ?_) (fun c63 => absurd c63 (by decide))
            refine lv_goto (tgt := 9) hx hb dX6_matches_255 (by decide) ?_
            exact ih _ _ _ σ 1 v2 v1 hR hS (lv_sub hl [0, 2, 3, 4] rfl) hf
          · have hf := if_of_neg hf c61
            refine lv_aload_n hx hb dX6_matches_49 rfl (lv_at hl 3 rfl) ?_
            refine va_get (D := D) (ci := 7) (C := RX6) (T := TX6) (N := 22) hx hb hts iuX6 hown hK.1 (WW_one hR (f := 0) (i := 0) rfl) 0 rfl rfl 14 (by decide) (hts _ q_822) (fun _ h9 => h9) rfl dX6_matches_50 ?_
            refine lv_iload_n hx hb dX6_matches_53 rfl (lv_at hl 4 rfl) ?_
            refine va_zald hx hb hK.1 (WW_one hR (f := 13) (i := 0) rfl) 0 2 rfl rfl g3 dX6_matches_54 ?_
            refine lv_if_eq (tgt := 77) hx hb dX6_matches_55 (by decide) (fun c64 => ?_) (fun c64 => ?_)
            · have hf := if_of_pos hf c64
              refine lv_aload_n hx hb dX6_matches_77 rfl (lv_at hl 3 rfl) ?_
              refine va_get (D := D) (ci := 7) (C := RX6) (T := TX6) (N := 22) hx hb hts iuX6 hown hK.1 (WW_one hR (f := 0) (i := 0) rfl) 0 rfl rfl 15 (by decide) (hts _ q_823) (fun _ h9 => h9) rfl dX6_matches_78 ?_
              refine lv_iload hx hb dX6_matches_81 (lv_at hl 0 rfl) ?_
              obtain ⟨g65, hf⟩ := gd_of hf
              refine va_iald hx hb hK.1 (WW_one hR (f := 14) (i := 0) rfl) 0 0 rfl rfl g65 dX6_matches_83 ?_
              refine lv_aload_n hx hb dX6_matches_84 rfl (lv_at hl 3 rfl) ?_
              refine va_get (D := D) (ci := 7) (C := RX6) (T := TX6) (N := 22) hx hb hts iuX6 hown hK.1 (WW_one hR (f := 0) (i := 0) rfl) 0 rfl rfl 15 (by decide) (hts _ q_823) (fun _ h9 => h9) rfl dX6_matches_85 ?_
              refine lv_iload_n hx hb dX6_matches_88 rfl (lv_at hl 4 rfl) ?_
              refine va_iald hx hb hK.1 (WW_one hR (f := 14) (i := 0) rfl) 0 0 rfl rfl g3 dX6_matches_89 ?_
              refine lv_icmp_ge (tgt := 97) hx hb dX6_matches_90 (by decide) (fun c66 => ?_) (fun c66 => ?_)
              · have hf := if_of_pos hf c66
                refine lv_iconst (v := 0) hx hb dX6_matches_97 (by decide) ?_
                refine lv_istore_n (lv' := [(3, .int 0), (4, .int q60), (2, .int v2), (0, .ref (ad 0 0)), (1, .int v1)]) hx hb dX6_matches_98 rfl hl (by decide) rfl (fun ls hl => ?_)
                refine lv_iload_n hx hb dX6_matches_99 rfl (lv_at hl 0 rfl) ?_
                refine lv_if_ne (tgt := 130) hx hb dX6_matches_100 (by decide) (fun c67 => absurd c67 (by decide)) (fun c67 => ?_)
                refine lv_aload_n hx hb dX6_matches_103 rfl (lv_at hl 3 rfl) ?_
                refine va_get (D := D) (ci := 7) (C := RX6) (T := TX6) (N := 22) hx hb hts iuX6 hown hK.1 (WW_one hR (f := 0) (i := 0) rfl) 0 rfl rfl 12 (by decide) (hts _ q_820) (fun _ h9 => h9) rfl dX6_matches_104 ?_
                refine lv_iload hx hb dX6_matches_107 (lv_at hl 1 rfl) ?_
                refine va_iald hx hb hK.1 (WW_one hR (f := 11) (i := 0) rfl) 0 0 rfl rfl g65 dX6_matches_109 ?_
                refine lv_aload_n hx hb dX6_matches_110 rfl (lv_at hl 3 rfl) ?_
                refine va_get (D := D) (ci := 7) (C := RX6) (T := TX6) (N := 22) hx hb hts iuX6 hown hK.1 (WW_one hR (f := 0) (i := 0) rfl) 0 rfl rfl 12 (by decide) (hts _ q_820) (fun _ h9 => h9) rfl dX6_matches_111 ?_
                refine lv_iload_n hx hb dX6_matches_114 rfl (lv_at hl 4 rfl) ?_
                refine va_iald hx hb hK.1 (WW_one hR (f := 11) (i := 0) rfl) 0 0 rfl rfl g3 dX6_matches_115 ?_
                refine lv_icmp_ne (tgt := 130) hx hb dX6_matches_116 (by decide) (fun c68 => ?_) (fun c68 => ?_)
                · have hf := if_of_pos hf c68
                  refine lv_iload_n hx hb dX6_matches_130 rfl (lv_at hl 0 rfl) ?_
                  refine lv_if_ne (tgt := 255) hx hb dX6_matches_131 (by decide) (fun c69 => absurd c69 (by decide)) (fun c69 => ?_)
                  refine lv_aload_n hx hb dX6_matches_134 rfl (lv_at hl 3 rfl) ?_
                  refine va_get (D := D) (ci := 7) (C := RX6) (T := TX6) (N := 22) hx hb hts iuX6 hown hK.1 (WW_one hR (f := 0) (i := 0) rfl) 0 rfl rfl 16 (by decide) (hts _ q_824) (fun _ h9 => h9) rfl dX6_matches_135 ?_
                  refine lv_iload hx hb dX6_matches_138 (lv_at hl 1 rfl) ?_
                  refine va_iald hx hb hK.1 (WW_one hR (f := 15) (i := 0) rfl) 0 0 rfl rfl g65 dX6_matches_140 ?_
                  refine lv_aload_n hx hb dX6_matches_141 rfl (lv_at hl 3 rfl) ?_
                  refine va_get (D := D) (ci := 7) (C := RX6) (T := TX6) (N := 22) hx hb hts iuX6 hown hK.1 (WW_one hR (f := 0) (i := 0) rfl) 0 rfl rfl 16 (by decide) (hts _ q_824) (fun _ h9 => h9) rfl dX6_matches_142 ?_
                  refine lv_iload_n hx hb dX6_matches_145 rfl (lv_at hl 4 rfl) ?_
                  refine va_iald hx hb hK.1 (WW_one hR (f := 15) (i := 0) rfl) 0 0 rfl rfl g3 dX6_matches_146 ?_
                  refine lv_icmp_ge (tgt := 160) hx hb dX6_matches_147 (by decide) (fun c70 => ?_) (fun c70 => ?_)
                  · have hf := if_of_pos hf c70
                    refine lv_aload_n hx hb dX6_matches_160 rfl (lv_at hl 3 rfl) ?_
                    refine va_get (D := D) (ci := 7) (C := RX6) (T := TX6) (N := 22) hx hb hts iuX6 hown hK.1 (WW_one hR (f := 0) (i := 0) rfl) 0 rfl rfl 16 (by decide) (hts _ q_824) (fun _ h9 => h9) rfl dX6_matches_161 ?_
                    refine lv_iload_n hx hb dX6_matches_164 rfl (lv_at hl 4 rfl) ?_
                    refine va_iald hx hb hK.1 (WW_one hR (f := 15) (i := 0) rfl) 0 0 rfl rfl g3 dX6_matches_165 ?_
                    refine lv_topi (fun x71 hx71 => ?_)
                    have hf := kst_eq hx71 hf
                    refine lv_istore (lv' := [(5, .int x71), (3, .int 0), (4, .int q60), (2, .int v2), (0, .ref (ad 0 0)), (1, .int v1)]) hx hb dX6_matches_166 hl (by decide) rfl (fun ls hl => ?_)
                    refine lv_aload_n hx hb dX6_matches_168 rfl (lv_at hl 4 rfl) ?_
                    refine lv_aload_n hx hb dX6_matches_169 rfl (lv_at hl 4 rfl) ?_
                    refine va_get (D := D) (ci := 7) (C := RX6) (T := TX6) (N := 22) hx hb hts iuX6 hown hK.1 (WW_one hR (f := 0) (i := 0) rfl) 0 rfl rfl 14 (by decide) (hts _ q_822) (fun _ h9 => h9) rfl dX6_matches_170 ?_
                    refine lv_iload_n hx hb dX6_matches_173 rfl (lv_at hl 5 rfl) ?_
                    refine va_zald hx hb hK.1 (WW_one hR (f := 13) (i := 0) rfl) 0 2 rfl rfl g3 dX6_matches_174 ?_
                    refine lv_if_eq (tgt := 187) hx hb dX6_matches_175 (by decide) (fun c72 => ?_) (fun c72 => ?_)
                    · have hf := if_of_pos hf c72
                      refine lv_aload_n hx hb dX6_matches_187 rfl (lv_at hl 4 rfl) ?_
                      refine va_get (D := D) (ci := 7) (C := RX6) (T := TX6) (N := 22) hx hb hts iuX6 hown hK.1 (WW_one hR (f := 0) (i := 0) rfl) 0 rfl rfl 12 (by decide) (hts _ q_820) (fun _ h9 => h9) rfl dX6_matches_188 ?_
                      refine lv_iload hx hb dX6_matches_191 (lv_at hl 2 rfl) ?_
                      refine va_iald hx hb hK.1 (WW_one hR (f := 11) (i := 0) rfl) 0 0 rfl rfl g65 dX6_matches_193 ?_
                      refine lv_aload_n hx hb dX6_matches_194 rfl (lv_at hl 4 rfl) ?_
                      refine va_get (D := D) (ci := 7) (C := RX6) (T := TX6) (N := 22) hx hb hts iuX6 hown hK.1 (WW_one hR (f := 0) (i := 0) rfl) 0 rfl rfl 14 (by decide) (hts _ q_822) (fun _ h9 => h9) rfl dX6_matches_195 ?_
                      refine lv_iload_n hx hb dX6_matches_198 rfl (lv_at hl 5 rfl) ?_
                      refine va_zald hx hb hK.1 (WW_one hR (f := 13) (i := 0) rfl) 0 2 rfl rfl g3 dX6_matches_199 ?_
                      refine lv_if_eq (tgt := 213) hx hb dX6_matches_200 (by decide) (fun c73 => ?_) (fun c73 => ?_)
                      · have hf := if_of_pos hf c73
                        refine lv_aload_n hx hb dX6_matches_213 rfl (lv_at hl 4 rfl) ?_
                        refine va_get (D := D) (ci := 7) (C := RX6) (T := TX6) (N := 22) hx hb hts iuX6 hown hK.1 (WW_one hR (f := 0) (i := 0) rfl) 0 rfl rfl 12 (by decide) (hts _ q_820) (fun _ h9 => h9) rfl dX6_matches_214 ?_
                        refine lv_iload_n hx hb dX6_matches_217 rfl (lv_at hl 5 rfl) ?_
                        refine va_iald hx hb hK.1 (WW_one hR (f := 11) (i := 0) rfl) 0 0 rfl rfl g3 dX6_matches_218 ?_
                        refine lv_iload_n hx hb dX6_matches_219 rfl (lv_at hl 3 rfl) ?_
                        refine lv_iload hx hb dX6_matches_220 (lv_at hl 0 rfl) ?_
                        refine lv_aload_n hx hb dX6_matches_222 rfl (lv_at hl 4 rfl) ?_
                        refine va_get (D := D) (ci := 7) (C := RX6) (T := TX6) (N := 22) hx hb hts iuX6 hown hK.1 (WW_one hR (f := 0) (i := 0) rfl) 0 rfl rfl 15 (by decide) (hts _ q_823) (fun _ h9 => h9) rfl dX6_matches_223 ?_
                        refine lv_iload hx hb dX6_matches_226 (lv_at hl 2 rfl) ?_
                        refine va_iald hx hb hK.1 (WW_one hR (f := 14) (i := 0) rfl) 0 0 rfl rfl g65 dX6_matches_228 ?_
                        obtain ⟨q74, hcq74, hf⟩ := bd_of hf
                        refine kc_v (va_runV (As := [.int (gI σ 11 0 q60.toNatClampNeg), .int (gI σ 11 0 v1.toNatClampNeg), .int v2, .int x71, .int (gI σ 14 0 q60.toNatClampNeg)]) (rest := []) ⟨hx, hb, hml, hown, hts⟩ (mX6_trade l D dA ad σ _ (gI σ 11 0 q60.toNatClampNeg) (gI σ 11 0 v1.toNatClampNeg) v2 x71 (gI σ 14 0 q60.toNatClampNeg) q74 hcq74) (cwV 5 hts gX6_127 rfl rfl rfl (by decide +kernel) ⟨Nat.le_of_ble_eq_true rfl, Nat.le_of_ble_eq_true rfl⟩) (preV_of hR hK (f := 0) (i := 0) rfl rfl rfl _) rfl rfl hl.1 rfl (lv_room (Nat.le_of_ble_eq_true rfl)) dX6_matches_229 ⟨Nat.zero_le _, Nat.zero_le _⟩) hA hR hS (fun H locs hR hS => ?_)
                        refine lv_aload_n hx hb dX6_matches_232 rfl (lv_at hl 4 rfl) ?_
                        refine va_get (D := D) (ci := 7) (C := RX6) (T := TX6) (N := 22) hx hb hts iuX6 hown hK.1 (WW_one hR (f := 0) (i := 0) rfl) 0 rfl rfl 16 (by decide) (hts _ q_824) (fun _ h9 => h9) rfl dX6_matches_233 ?_
                        refine lv_iload hx hb dX6_matches_236 (lv_at hl 2 rfl) ?_
                        refine lv_dup2_11 hx hb dX6_matches_238 rfl rfl ?_
                        refine va_iald hx hb hK.1 (WW_one hR (f := 15) (i := 0) rfl) 0 0 rfl rfl g65 dX6_matches_239 ?_
                        refine lv_iload hx hb dX6_matches_240 (lv_at hl 0 rfl) ?_
                        refine lv_isub hx hb dX6_matches_242 ?_
                        refine ww_iast hx hb hK.1 hR hS 0 (f := 15) (j := 0) rfl rfl rfl g65 dX6_matches_243 (fun H locs hR hS => ?_)
                        have hR := HM_row15 0 (q60.toNatClampNeg) ((gI q74 15 0 q60.toNatClampNeg) - x71) hR
                        refine lv_aload_n hx hb dX6_matches_244 rfl (lv_at hl 4 rfl) ?_
                        refine va_get (D := D) (ci := 7) (C := RX6) (T := TX6) (N := 22) hx hb hts iuX6 hown hK.1 (WW_one hR (f := 0) (i := 0) rfl) 0 rfl rfl 16 (by decide) (hts _ q_824) (fun _ h9 => h9) rfl dX6_matches_245 ?_
                        refine lv_iload_n hx hb dX6_matches_248 rfl (lv_at hl 5 rfl) ?_
                        refine lv_dup2_11 hx hb dX6_matches_249 rfl rfl ?_
                        refine va_iald hx hb hK.1 (WW_one hR (f := 15) (i := 0) rfl) 0 0 rfl rfl g3 dX6_matches_250 ?_
                        refine lv_iload hx hb dX6_matches_251 (lv_at hl 0 rfl) ?_
                        refine lv_isub hx hb dX6_matches_253 ?_
                        refine ww_iast hx hb hK.1 hR hS 0 (f := 15) (j := 0) rfl rfl rfl g3 dX6_matches_254 (fun H locs hR hS => ?_)
                        have hR := HM_row15 0 (v1.toNatClampNeg) ((gI (pI q74 15 0 q60.toNatClampNeg ((gI q74 15 0 q60.toNatClampNeg) - x71)) 15 0 v1.toNatClampNeg) - x71) hR
                        refine lv_goto (tgt := 9) hx hb dX6_matches_255 (by decide) ?_
                        exact ih _ _ _ (pI (pI q74 15 0 q60.toNatClampNeg ((gI q74 15 0 q60.toNatClampNeg) - x71)) 15 0 v1.toNatClampNeg ((gI (pI q74 15 0 q60.toNatClampNeg ((gI q74 15 0 q60.toNatClampNeg) - x71)) 15 0 v1.toNatClampNeg) - x71)) 0 v2 v1 hR hS (lv_sub hl [1, 3, 4, 5] rfl) hf
                      · have hf := if_of_neg hf c73
                        refine lv_aload_n hx hb dX6_matches_203 rfl (lv_at hl 4 rfl) ?_
                        refine va_get (D := D) (ci := 7) (C := RX6) (T := TX6) (N := 22) hx hb hts iuX6 hown hK.1 (WW_one hR (f := 0) (i := 0) rfl) 0 rfl rfl 12 (by decide) (hts _ q_820) (fun _ h9 => h9) rfl dX6_matches_204 ?_
                        refine lv_iload hx hb dX6_matches_207 (lv_at hl 2 rfl) ?_
                        refine va_iald hx hb hK.1 (WW_one hR (f := 11) (i := 0) rfl) 0 0 rfl rfl g65 dX6_matches_209 ?_
                        refine lv_goto (tgt := 219) hx hb dX6_matches_210 (by decide) ?_
                        refine lv_iload_n hx hb dX6_matches_219 rfl (lv_at hl 3 rfl) ?_
                        refine lv_iload hx hb dX6_matches_220 (lv_at hl 0 rfl) ?_
                        refine lv_aload_n hx hb dX6_matches_222 rfl (lv_at hl 4 rfl) ?_
                        refine va_get (D := D) (ci := 7) (C := RX6) (T := TX6) (N := 22) hx hb hts iuX6 hown hK.1 (WW_one hR (f := 0) (i := 0) rfl) 0 rfl rfl 15 (by decide) (hts _ q_823) (fun _ h9 => h9) rfl dX6_matches_223 ?_
                        refine lv_iload hx hb dX6_matches_226 (lv_at hl 2 rfl) ?_
                        refine va_iald hx hb hK.1 (WW_one hR (f := 14) (i := 0) rfl) 0 0 rfl rfl g65 dX6_matches_228 ?_
                        obtain ⟨q75, hcq75, hf⟩ := bd_of hf
                        refine kc_v (va_runV (As := [.int (gI σ 11 0 q60.toNatClampNeg), .int (gI σ 11 0 q60.toNatClampNeg), .int v2, .int x71, .int (gI σ 14 0 q60.toNatClampNeg)]) (rest := []) ⟨hx, hb, hml, hown, hts⟩ (mX6_trade l D dA ad σ _ (gI σ 11 0 q60.toNatClampNeg) (gI σ 11 0 q60.toNatClampNeg) v2 x71 (gI σ 14 0 q60.toNatClampNeg) q75 hcq75) (cwV 5 hts gX6_127 rfl rfl rfl (by decide +kernel) ⟨Nat.le_of_ble_eq_true rfl, Nat.le_of_ble_eq_true rfl⟩) (preV_of hR hK (f := 0) (i := 0) rfl rfl rfl _) rfl rfl hl.1 rfl (lv_room (Nat.le_of_ble_eq_true rfl)) dX6_matches_229 ⟨Nat.zero_le _, Nat.zero_le _⟩) hA hR hS (fun H locs hR hS => ?_)
                        refine lv_aload_n hx hb dX6_matches_232 rfl (lv_at hl 4 rfl) ?_
                        refine va_get (D := D) (ci := 7) (C := RX6) (T := TX6) (N := 22) hx hb hts iuX6 hown hK.1 (WW_one hR (f := 0) (i := 0) rfl) 0 rfl rfl 16 (by decide) (hts _ q_824) (fun _ h9 => h9) rfl dX6_matches_233 ?_
                        refine lv_iload hx hb dX6_matches_236 (lv_at hl 2 rfl) ?_
                        refine lv_dup2_11 hx hb dX6_matches_238 rfl rfl ?_
                        refine va_iald hx hb hK.1 (WW_one hR (f := 15) (i := 0) rfl) 0 0 rfl rfl g65 dX6_matches_239 ?_
                        refine lv_iload hx hb dX6_matches_240 (lv_at hl 0 rfl) ?_
                        refine lv_isub hx hb dX6_matches_242 ?_
                        refine ww_iast hx hb hK.1 hR hS 0 (f := 15) (j := 0) rfl rfl rfl g65 dX6_matches_243 (fun H locs hR hS => ?_)
                        have hR := HM_row15 0 (q60.toNatClampNeg) ((gI q75 15 0 q60.toNatClampNeg) - x71) hR
                        refine lv_aload_n hx hb dX6_matches_244 rfl (lv_at hl 4 rfl) ?_
                        refine va_get (D := D) (ci := 7) (C := RX6) (T := TX6) (N := 22) hx hb hts iuX6 hown hK.1 (WW_one hR (f := 0) (i := 0) rfl) 0 rfl rfl 16 (by decide) (hts _ q_824) (fun _ h9 => h9) rfl dX6_matches_245 ?_
                        refine lv_iload_n hx hb dX6_matches_248 rfl (lv_at hl 5 rfl) ?_
                        refine lv_dup2_11 hx hb dX6_matches_249 rfl rfl ?_
                        refine va_iald hx hb hK.1 (WW_one hR (f := 15) (i := 0) rfl) 0 0 rfl rfl g3 dX6_matches_250 ?_
                        refine lv_iload hx hb dX6_matches_251 (lv_at hl 0 rfl) ?_
                        refine lv_isub hx hb dX6_matches_253 ?_
                        refine ww_iast hx hb hK.1 hR hS 0 (f := 15) (j := 0) rfl rfl rfl g3 dX6_matches_254 (fun H locs hR hS => ?_)
                        have hR := HM_row15 0 (v1.toNatClampNeg) ((gI (pI q75 15 0 q60.toNatClampNeg ((gI q75 15 0 q60.toNatClampNeg) - x71)) 15 0 v1.toNatClampNeg) - x71) hR
                        refine lv_goto (tgt := 9) hx hb dX6_matches_255 (by decide) ?_
                        exact ih _ _ _ (pI (pI q75 15 0 q60.toNatClampNeg ((gI q75 15 0 q60.toNatClampNeg) - x71)) 15 0 v1.toNatClampNeg ((gI (pI q75 15 0 q60.toNatClampNeg ((gI q75 15 0 q60.toNatClampNeg) - x71)) 15 0 v1.toNatClampNeg) - x71)) 0 v2 v1 hR hS (lv_sub hl [1, 3, 4, 5] rfl) hf
                    · have hf := if_of_neg hf c72
                      refine lv_aload_n hx hb dX6_matches_178 rfl (lv_at hl 4 rfl) ?_
                      refine va_get (D := D) (ci := 7) (C := RX6) (T := TX6) (N := 22) hx hb hts iuX6 hown hK.1 (WW_one hR (f := 0) (i := 0) rfl) 0 rfl rfl 12 (by decide) (hts _ q_820) (fun _ h9 => h9) rfl dX6_matches_179 ?_
                      refine lv_iload_n hx hb dX6_matches_182 rfl (lv_at hl 5 rfl) ?_
                      refine va_iald hx hb hK.1 (WW_one hR (f := 11) (i := 0) rfl) 0 0 rfl rfl g3 dX6_matches_183 ?_
                      refine lv_goto (tgt := 194) hx hb dX6_matches_184 (by decide) ?_
                      refine lv_aload_n hx hb dX6_matches_194 rfl (lv_at hl 4 rfl) ?_
                      refine va_get (D := D) (ci := 7) (C := RX6) (T := TX6) (N := 22) hx hb hts iuX6 hown hK.1 (WW_one hR (f := 0) (i := 0) rfl) 0 rfl rfl 14 (by decide) (hts _ q_822) (fun _ h9 => h9) rfl dX6_matches_195 ?_
                      refine lv_iload_n hx hb dX6_matches_198 rfl (lv_at hl 5 rfl) ?_
                      refine va_zald hx hb hK.1 (WW_one hR (f := 13) (i := 0) rfl) 0 2 rfl rfl g3 dX6_matches_199 ?_
                      refine lv_if_eq (tgt := 213) hx hb dX6_matches_200 (by decide) (fun c76 => ?_) (fun c76 => ?_)
                      · have hf := if_of_pos hf c76
                        refine lv_aload_n hx hb dX6_matches_213 rfl (lv_at hl 4 rfl) ?_
                        refine va_get (D := D) (ci := 7) (C := RX6) (T := TX6) (N := 22) hx hb hts iuX6 hown hK.1 (WW_one hR (f := 0) (i := 0) rfl) 0 rfl rfl 12 (by decide) (hts _ q_820) (fun _ h9 => h9) rfl dX6_matches_214 ?_
                        refine lv_iload_n hx hb dX6_matches_217 rfl (lv_at hl 5 rfl) ?_
                        refine va_iald hx hb hK.1 (WW_one hR (f := 11) (i := 0) rfl) 0 0 rfl rfl g3 dX6_matches_218 ?_
                        refine lv_iload_n hx hb dX6_matches_219 rfl (lv_at hl 3 rfl) ?_
                        refine lv_iload hx hb dX6_matches_220 (lv_at hl 0 rfl) ?_
                        refine lv_aload_n hx hb dX6_matches_222 rfl (lv_at hl 4 rfl) ?_
                        refine va_get (D := D) (ci := 7) (C := RX6) (T := TX6) (N := 22) hx hb hts iuX6 hown hK.1 (WW_one hR (f := 0) (i := 0) rfl) 0 rfl rfl 15 (by decide) (hts _ q_823) (fun _ h9 => h9) rfl dX6_matches_223 ?_
                        refine lv_iload hx hb dX6_matches_226 (lv_at hl 2 rfl) ?_
                        refine va_iald hx hb hK.1 (WW_one hR (f := 14) (i := 0) rfl) 0 0 rfl rfl g65 dX6_matches_228 ?_
                        obtain ⟨q77, hcq77, hf⟩ := bd_of hf
                        refine kc_v (va_runV (As := [.int (gI σ 11 0 v1.toNatClampNeg), .int (gI σ 11 0 v1.toNatClampNeg), .int v2, .int x71, .int (gI σ 14 0 q60.toNatClampNeg)]) (rest := []) ⟨hx, hb, hml, hown, hts⟩ (mX6_trade l D dA ad σ _ (gI σ 11 0 v1.toNatClampNeg) (gI σ 11 0 v1.toNatClampNeg) v2 x71 (gI σ 14 0 q60.toNatClampNeg) q77 hcq77) (cwV 5 hts gX6_127 rfl rfl rfl (by decide +kernel) ⟨Nat.le_of_ble_eq_true rfl, Nat.le_of_ble_eq_true rfl⟩) (preV_of hR hK (f := 0) (i := 0) rfl rfl rfl _) rfl rfl hl.1 rfl (lv_room (Nat.le_of_ble_eq_true rfl)) dX6_matches_229 ⟨Nat.zero_le _, Nat.zero_le _⟩) hA hR hS (fun H locs hR hS => ?_)
                        refine lv_aload_n hx hb dX6_matches_232 rfl (lv_at hl 4 rfl) ?_
                        refine va_get (D := D) (ci := 7) (C := RX6) (T := TX6) (N := 22) hx hb hts iuX6 hown hK.1 (WW_one hR (f := 0) (i := 0) rfl) 0 rfl rfl 16 (by decide) (hts _ q_824) (fun _ h9 => h9) rfl dX6_matches_233 ?_
                        refine lv_iload hx hb dX6_matches_236 (lv_at hl 2 rfl) ?_
                        refine lv_dup2_11 hx hb dX6_matches_238 rfl rfl ?_
                        refine va_iald hx hb hK.1 (WW_one hR (f := 15) (i := 0) rfl) 0 0 rfl rfl g65 dX6_matches_239 ?_
                        refine lv_iload hx hb dX6_matches_240 (lv_at hl 0 rfl) ?_
                        refine lv_isub hx hb dX6_matches_242 ?_
                        refine ww_iast hx hb hK.1 hR hS 0 (f := 15) (j := 0) rfl rfl rfl g65 dX6_matches_243 (fun H locs hR hS => ?_)
                        have hR := HM_row15 0 (q60.toNatClampNeg) ((gI q77 15 0 q60.toNatClampNeg) - x71) hR
                        refine lv_aload_n hx hb dX6_matches_244 rfl (lv_at hl 4 rfl) ?_
                        refine va_get (D := D) (ci := 7) (C := RX6) (T := TX6) (N := 22) hx hb hts iuX6 hown hK.1 (WW_one hR (f := 0) (i := 0) rfl) 0 rfl rfl 16 (by decide) (hts _ q_824) (fun _ h9 => h9) rfl dX6_matches_245 ?_
                        refine lv_iload_n hx hb dX6_matches_248 rfl (lv_at hl 5 rfl) ?_
                        refine lv_dup2_11 hx hb dX6_matches_249 rfl rfl ?_
                        refine va_iald hx hb hK.1 (WW_one hR (f := 15) (i := 0) rfl) 0 0 rfl rfl g3 dX6_matches_250 ?_
                        refine lv_iload hx hb dX6_matches_251 (lv_at hl 0 rfl) ?_
                        refine lv_isub hx hb dX6_matches_253 ?_
                        refine ww_iast hx hb hK.1 hR hS 0 (f := 15) (j := 0) rfl rfl rfl g3 dX6_matches_254 (fun H locs hR hS => ?_)
                        have hR := HM_row15 0 (v1.toNatClampNeg) ((gI (pI q77 15 0 q60.toNatClampNeg ((gI q77 15 0 q60.toNatClampNeg) - x71)) 15 0 v1.toNatClampNeg) - x71) hR
                        refine lv_goto (tgt := 9) hx hb dX6_matches_255 (by decide) ?_
                        exact ih _ _ _ (pI (pI q77 15 0 q60.toNatClampNeg ((gI q77 15 0 q60.toNatClampNeg) - x71)) 15 0 v1.toNatClampNeg ((gI (pI q77 15 0 q60.toNatClampNeg ((gI q77 15 0 q60.toNatClampNeg) - x71)) 15 0 v1.toNatClampNeg) - x71)) 0 v2 v1 hR hS (lv_sub hl [1, 3, 4, 5] rfl) hf
                      · have hf := if_of_neg hf c76
                        refine lv_aload_n hx hb dX6_matches_203 rfl (lv_at hl 4 rfl) ?_
                        refine va_get (D := D) (ci := 7) (C := RX6) (T := TX6) (N := 22) hx hb hts iuX6 hown hK.1 (WW_one hR (f := 0) (i := 0) rfl) 0 rfl rfl 12 (by decide) (hts _ q_820) (fun _ h9 => h9) rfl dX6_matches_204 ?_
                        refine lv_iload hx hb dX6_matches_207 (lv_at hl 2 rfl) ?_
                        refine va_iald hx hb hK.1 (WW_one hR (f := 11) (i := 0) rfl) 0 0 rfl rfl g65 dX6_matches_209 ?_
                        refine lv_goto (tgt := 219) hx hb dX6_matches_210 (by decide) ?_
                        refine lv_iload_n hx hb dX6_matches_219 rfl (lv_at hl 3 rfl) ?_
                        refine lv_iload hx hb dX6_matches_220 (lv_at hl 0 rfl) ?_
                        refine lv_aload_n hx hb dX6_matches_222 rfl (lv_at hl 4 rfl) ?_
                        refine va_get (D := D) (ci := 7) (C := RX6) (T := TX6) (N := 22) hx hb hts iuX6 hown hK.1 (WW_one hR (f := 0) (i := 0) rfl) 0 rfl rfl 15 (by decide) (hts _ q_823) (fun _ h9 => h9) rfl dX6_matches_223 ?_
                        refine lv_iload hx hb dX6_matches_226 (lv_at hl 2 rfl) ?_
                        refine va_iald hx hb hK.1 (WW_one hR (f := 14) (i := 0) rfl) 0 0 rfl rfl g65 dX6_matches_228 ?_
                        obtain ⟨q78, hcq78, hf⟩ := bd_of hf
                        refine kc_v (va_runV (As := [.int (gI σ 11 0 v1.toNatClampNeg), .int (gI σ 11 0 q60.toNatClampNeg), .int v2, .int x71, .int (gI σ 14 0 q60.toNatClampNeg)]) (rest := []) ⟨hx, hb, hml, hown, hts⟩ (mX6_trade l D dA ad σ _ (gI σ 11 0 v1.toNatClampNeg) (gI σ 11 0 q60.toNatClampNeg) v2 x71 (gI σ 14 0 q60.toNatClampNeg) q78 hcq78) (cwV 5 hts gX6_127 rfl rfl rfl (by decide +kernel) ⟨Nat.le_of_ble_eq_true rfl, Nat.le_of_ble_eq_true rfl⟩) (preV_of hR hK (f := 0) (i := 0) rfl rfl rfl _) rfl rfl hl.1 rfl (lv_room (Nat.le_of_ble_eq_true rfl)) dX6_matches_229 ⟨Nat.zero_le _, Nat.zero_le _⟩) hA hR hS (fun H locs hR hS => ?_)
                        refine lv_aload_n hx hb dX6_matches_232 rfl (lv_at hl 4 rfl) ?_
                        refine va_get (D := D) (ci := 7) (C := RX6) (T := TX6) (N := 22) hx hb hts iuX6 hown hK.1 (WW_one hR (f := 0) (i := 0) rfl) 0 rfl rfl 16 (by decide) (hts _ q_824) (fun _ h9 => h9) rfl dX6_matches_233 ?_
                        refine lv_iload hx hb dX6_matches_236 (lv_at hl 2 rfl) ?_
                        refine lv_dup2_11 hx hb dX6_matches_238 rfl rfl ?_
                        refine va_iald hx hb hK.1 (WW_one hR (f := 15) (i := 0) rfl) 0 0 rfl rfl g65 dX6_matches_239 ?_
                        refine lv_iload hx hb dX6_matches_240 (lv_at hl 0 rfl) ?_
                        refine lv_isub hx hb dX6_matches_242 ?_
                        refine ww_iast hx hb hK.1 hR hS 0 (f := 15) (j := 0) rfl rfl rfl g65 dX6_matches_243 (fun H locs hR hS => ?_)
                        have hR := HM_row15 0 (q60.toNatClampNeg) ((gI q78 15 0 q60.toNatClampNeg) - x71) hR
                        refine lv_aload_n hx hb dX6_matches_244 rfl (lv_at hl 4 rfl) ?_
                        refine va_get (D := D) (ci := 7) (C := RX6) (T := TX6) (N := 22) hx hb hts iuX6 hown hK.1 (WW_one hR (f := 0) (i := 0) rfl) 0 rfl rfl 16 (by decide) (hts _ q_824) (fun _ h9 => h9) rfl dX6_matches_245 ?_
                        refine lv_iload_n hx hb dX6_matches_248 rfl (lv_at hl 5 rfl) ?_
                        refine lv_dup2_11 hx hb dX6_matches_249 rfl rfl ?_
                        refine va_iald hx hb hK.1 (WW_one hR (f := 15) (i := 0) rfl) 0 0 rfl rfl g3 dX6_matches_250 ?_
                        refine lv_iload hx hb dX6_matches_251 (lv_at hl 0 rfl) ?_
                        refine lv_isub hx hb dX6_matches_253 ?_
                        refine ww_iast hx hb hK.1 hR hS 0 (f := 15) (j := 0) rfl rfl rfl g3 dX6_matches_254 (fun H locs hR hS => ?_)
                        have hR := HM_row15 0 (v1.toNatClampNeg) ((gI (pI q78 15 0 q60.toNatClampNeg ((gI q78 15 0 q60.toNatClampNeg) - x71)) 15 0 v1.toNatClampNeg) - x71) hR
                        refine lv_goto (tgt := 9) hx hb dX6_matches_255 (by decide) ?_
                        exact ih _ _ _ (pI (pI q78 15 0 q60.toNatClampNeg ((gI q78 15 0 q60.toNatClampNeg) - x71)) 15 0 v1.toNatClampNeg ((gI (pI q78 15 0 q60.toNatClampNeg ((gI q78 15 0 q60.toNatClampNeg) - x71)) 15 0 v1.toNatClampNeg) - x71)) 0 v2 v1 hR hS (lv_sub hl [1, 3, 4, 5] rfl) hf
                  · have hf := if_of_neg hf c70
                    refine lv_aload_n hx hb dX6_matches_150 rfl (lv_at hl 3 rfl) ?_
                    refine va_get (D := D) (ci := 7) (C := RX6) (T := TX6) (N := 22) hx hb hts iuX6 hown hK.1 (WW_one hR (f := 0) (i := 0) rfl) 0 rfl rfl 16 (by decide) (hts _ q_824) (fun _ h9 => h9) rfl dX6_matches_151 ?_
                    refine lv_iload hx hb dX6_matches_154 (lv_at hl 1 rfl) ?_
                    refine va_iald hx hb hK.1 (WW_one hR (f := 15) (i := 0) rfl) 0 0 rfl rfl g65 dX6_matches_156 ?_
                    refine lv_goto (tgt := 166) hx hb dX6_matches_157 (by decide) ?_
                    refine lv_topi (fun x79 hx79 => ?_)
                    have hf := kst_eq hx79 hf
                    refine lv_istore (lv' := [(5, .int x79), (3, .int 0), (4, .int q60), (2, .int v2), (0, .ref (ad 0 0)), (1, .int v1)]) hx hb dX6_matches_166 hl (by decide) rfl (fun ls hl => ?_)
                    refine lv_aload_n hx hb dX6_matches_168 rfl (lv_at hl 4 rfl) ?_
                    refine lv_aload_n hx hb dX6_matches_169 rfl (lv_at hl 4 rfl) ?_
                    refine va_get (D := D) (ci := 7) (C := RX6) (T := TX6) (N := 22) hx hb hts iuX6 hown hK.1 (WW_one hR (f := 0) (i := 0) rfl) 0 rfl rfl 14 (by decide) (hts _ q_822) (fun _ h9 => h9) rfl dX6_matches_170 ?_
                    refine lv_iload_n hx hb dX6_matches_173 rfl (lv_at hl 5 rfl) ?_
                    refine va_zald hx hb hK.1 (WW_one hR (f := 13) (i := 0) rfl) 0 2 rfl rfl g3 dX6_matches_174 ?_
                    refine lv_if_eq (tgt := 187) hx hb dX6_matches_175 (by decide) (fun c80 => ?_) (fun c80 => ?_)
                    · have hf := if_of_pos hf c80
                      refine lv_aload_n hx hb dX6_matches_187 rfl (lv_at hl 4 rfl) ?_
                      refine va_get (D := D) (ci := 7) (C := RX6) (T := TX6) (N := 22) hx hb hts iuX6 hown hK.1 (WW_one hR (f := 0) (i := 0) rfl) 0 rfl rfl 12 (by decide) (hts _ q_820) (fun _ h9 => h9) rfl dX6_matches_188 ?_
                      refine lv_iload hx hb dX6_matches_191 (lv_at hl 2 rfl) ?_
                      refine va_iald hx hb hK.1 (WW_one hR (f := 11) (i := 0) rfl) 0 0 rfl rfl g65 dX6_matches_193 ?_
                      refine lv_aload_n hx hb dX6_matches_194 rfl (lv_at hl 4 rfl) ?_
                      refine va_get (D := D) (ci := 7) (C := RX6) (T := TX6) (N := 22) hx hb hts iuX6 hown hK.1 (WW_one hR (f := 0) (i := 0) rfl) 0 rfl rfl 14 (by decide) (hts _ q_822) (fun _ h9 => h9) rfl dX6_matches_195 ?_
                      refine lv_iload_n hx hb dX6_matches_198 rfl (lv_at hl 5 rfl) ?_
                      refine va_zald hx hb hK.1 (WW_one hR (f := 13) (i := 0) rfl) 0 2 rfl rfl g3 dX6_matches_199 ?_
                      refine lv_if_eq (tgt := 213) hx hb dX6_matches_200 (by decide) (fun c81 => ?_) (fun c81 => ?_)
                      · have hf := if_of_pos hf c81
                        refine lv_aload_n hx hb dX6_matches_213 rfl (lv_at hl 4 rfl) ?_
                        refine va_get (D := D) (ci := 7) (C := RX6) (T := TX6) (N := 22) hx hb hts iuX6 hown hK.1 (WW_one hR (f := 0) (i := 0) rfl) 0 rfl rfl 12 (by decide) (hts _ q_820) (fun _ h9 => h9) rfl dX6_matches_214 ?_
                        refine lv_iload_n hx hb dX6_matches_217 rfl (lv_at hl 5 rfl) ?_
                        refine va_iald hx hb hK.1 (WW_one hR (f := 11) (i := 0) rfl) 0 0 rfl rfl g3 dX6_matches_218 ?_
                        refine lv_iload_n hx hb dX6_matches_219 rfl (lv_at hl 3 rfl) ?_
                        refine lv_iload hx hb dX6_matches_220 (lv_at hl 0 rfl) ?_
                        refine lv_aload_n hx hb dX6_matches_222 rfl (lv_at hl 4 rfl) ?_
                        refine va_get (D := D) (ci := 7) (C := RX6) (T := TX6) (N := 22) hx hb hts iuX6 hown hK.1 (WW_one hR (f := 0) (i := 0) rfl) 0 rfl rfl 15 (by decide) (hts _ q_823) (fun _ h9 => h9) rfl dX6_matches_223 ?_
                        refine lv_iload hx hb dX6_matches_226 (lv_at hl 2 rfl) ?_
                        refine va_iald hx hb hK.1 (WW_one hR (f := 14) (i := 0) rfl) 0 0 rfl rfl g65 dX6_matches_228 ?_
                        obtain ⟨q82, hcq82, hf⟩ := bd_of hf
                        refine kc_v (va_runV (As := [.int (gI σ 11 0 q60.toNatClampNeg), .int (gI σ 11 0 v1.toNatClampNeg), .int v2, .int x79, .int (gI σ 14 0 q60.toNatClampNeg)]) (rest := []) ⟨hx, hb, hml, hown, hts⟩ (mX6_trade l D dA ad σ _ (gI σ 11 0 q60.toNatClampNeg) (gI σ 11 0 v1.toNatClampNeg) v2 x79 (gI σ 14 0 q60.toNatClampNeg) q82 hcq82) (cwV 5 hts gX6_127 rfl rfl rfl (by decide +kernel) ⟨Nat.le_of_ble_eq_true rfl, Nat.le_of_ble_eq_true rfl⟩) (preV_of hR hK (f := 0) (i := 0) rfl rfl rfl _) rfl rfl hl.1 rfl (lv_room (Nat.le_of_ble_eq_true rfl)) dX6_matches_229 ⟨Nat.zero_le _, Nat.zero_le _⟩) hA hR hS (fun H locs hR hS => ?_)
                        refine lv_aload_n hx hb dX6_matches_232 rfl (lv_at hl 4 rfl) ?_
                        refine va_get (D := D) (ci := 7) (C := RX6) (T := TX6) (N := 22) hx hb hts iuX6 hown hK.1 (WW_one hR (f := 0) (i := 0) rfl) 0 rfl rfl 16 (by decide) (hts _ q_824) (fun _ h9 => h9) rfl dX6_matches_233 ?_
                        refine lv_iload hx hb dX6_matches_236 (lv_at hl 2 rfl) ?_
                        refine lv_dup2_11 hx hb dX6_matches_238 rfl rfl ?_
                        refine va_iald hx hb hK.1 (WW_one hR (f := 15) (i := 0) rfl) 0 0 rfl rfl g65 dX6_matches_239 ?_
                        refine lv_iload hx hb dX6_matches_240 (lv_at hl 0 rfl) ?_
                        refine lv_isub hx hb dX6_matches_242 ?_
                        refine ww_iast hx hb hK.1 hR hS 0 (f := 15) (j := 0) rfl rfl rfl g65 dX6_matches_243 (fun H locs hR hS => ?_)
                        have hR := HM_row15 0 (q60.toNatClampNeg) ((gI q82 15 0 q60.toNatClampNeg) - x79) hR
                        refine lv_aload_n hx hb dX6_matches_244 rfl (lv_at hl 4 rfl) ?_
                        refine va_get (D := D) (ci := 7) (C := RX6) (T := TX6) (N := 22) hx hb hts iuX6 hown hK.1 (WW_one hR (f := 0) (i := 0) rfl) 0 rfl rfl 16 (by decide) (hts _ q_824) (fun _ h9 => h9) rfl dX6_matches_245 ?_
                        refine lv_iload_n hx hb dX6_matches_248 rfl (lv_at hl 5 rfl) ?_
                        refine lv_dup2_11 hx hb dX6_matches_249 rfl rfl ?_
                        refine va_iald hx hb hK.1 (WW_one hR (f := 15) (i := 0) rfl) 0 0 rfl rfl g3 dX6_matches_250 ?_
                        refine lv_iload hx hb dX6_matches_251 (lv_at hl 0 rfl) ?_
                        refine lv_isub hx hb dX6_matches_253 ?_
                        refine ww_iast hx hb hK.1 hR hS 0 (f := 15) (j := 0) rfl rfl rfl g3 dX6_matches_254 (fun H locs hR hS => ?_)
                        have hR := HM_row15 0 (v1.toNatClampNeg) ((gI (pI q82 15 0 q60.toNatClampNeg ((gI q82 15 0 q60.toNatClampNeg) - x79)) 15 0 v1.toNatClampNeg) - x79) hR
                        refine lv_goto (tgt := 9) hx hb dX6_matches_255 (by decide) ?_
                        exact ih _ _ _ (pI (pI q82 15 0 q60.toNatClampNeg ((gI q82 15 0 q60.toNatClampNeg) - x79)) 15 0 v1.toNatClampNeg ((gI (pI q82 15 0 q60.toNatClampNeg ((gI q82 15 0 q60.toNatClampNeg) - x79)) 15 0 v1.toNatClampNeg) - x79)) 0 v2 v1 hR hS (lv_sub hl [1, 3, 4, 5] rfl) hf
                      · have hf := if_of_neg hf c81
                        refine lv_aload_n hx hb dX6_matches_203 rfl (lv_at hl 4 rfl) ?_
                        refine va_get (D := D) (ci := 7) (C := RX6) (T := TX6) (N := 22) hx hb hts iuX6 hown hK.1 (WW_one hR (f := 0) (i := 0) rfl) 0 rfl rfl 12 (by decide) (hts _ q_820) (fun _ h9 => h9) rfl dX6_matches_204 ?_
                        refine lv_iload hx hb dX6_matches_207 (lv_at hl 2 rfl) ?_
                        refine va_iald hx hb hK.1 (WW_one hR (f := 11) (i := 0) rfl) 0 0 rfl rfl g65 dX6_matches_209 ?_
                        refine lv_goto (tgt := 219) hx hb dX6_matches_210 (by decide) ?_
                        refine lv_iload_n hx hb dX6_matches_219 rfl (lv_at hl 3 rfl) ?_
                        refine lv_iload hx hb dX6_matches_220 (lv_at hl 0 rfl) ?_
                        refine lv_aload_n hx hb dX6_matches_222 rfl (lv_at hl 4 rfl) ?_
                        refine va_get (D := D) (ci := 7) (C := RX6) (T := TX6) (N := 22) hx hb hts iuX6 hown hK.1 (WW_one hR (f := 0) (i := 0) rfl) 0 rfl rfl 15 (by decide) (hts _ q_823) (fun _ h9 => h9) rfl dX6_matches_223 ?_
                        refine lv_iload hx hb dX6_matches_226 (lv_at hl 2 rfl) ?_
                        refine va_iald hx hb hK.1 (WW_one hR (f := 14) (i := 0) rfl) 0 0 rfl rfl g65 dX6_matches_228 ?_
                        obtain ⟨q83, hcq83, hf⟩ := bd_of hf
                        refine kc_v (va_runV (As := [.int (gI σ 11 0 q60.toNatClampNeg), .int (gI σ 11 0 q60.toNatClampNeg), .int v2, .int x79, .int (gI σ 14 0 q60.toNatClampNeg)]) (rest := []) ⟨hx, hb, hml, hown, hts⟩ (mX6_trade l D dA ad σ _ (gI σ 11 0 q60.toNatClampNeg) (gI σ 11 0 q60.toNatClampNeg) v2 x79 (gI σ 14 0 q60.toNatClampNeg) q83 hcq83) (cwV 5 hts gX6_127 rfl rfl rfl (by decide +kernel) ⟨Nat.le_of_ble_eq_true rfl, Nat.le_of_ble_eq_true rfl⟩) (preV_of hR hK (f := 0) (i := 0) rfl rfl rfl _) rfl rfl hl.1 rfl (lv_room (Nat.le_of_ble_eq_true rfl)) dX6_matches_229 ⟨Nat.zero_le _, Nat.zero_le _⟩) hA hR hS (fun H locs hR hS => ?_)
                        refine lv_aload_n hx hb dX6_matches_232 rfl (lv_at hl 4 rfl) ?_
                        refine va_get (D := D) (ci := 7) (C := RX6) (T := TX6) (N := 22) hx hb hts iuX6 hown hK.1 (WW_one hR (f := 0) (i := 0) rfl) 0 rfl rfl 16 (by decide) (hts _ q_824) (fun _ h9 => h9) rfl dX6_matches_233 ?_
                        refine lv_iload hx hb dX6_matches_236 (lv_at hl 2 rfl) ?_
                        refine lv_dup2_11 hx hb dX6_matches_238 rfl rfl ?_
                        refine va_iald hx hb hK.1 (WW_one hR (f := 15) (i := 0) rfl) 0 0 rfl rfl g65 dX6_matches_239 ?_
                        refine lv_iload hx hb dX6_matches_240 (lv_at hl 0 rfl) ?_
                        refine lv_isub hx hb dX6_matches_242 ?_
                        refine ww_iast hx hb hK.1 hR hS 0 (f := 15) (j := 0) rfl rfl rfl g65 dX6_matches_243 (fun H locs hR hS => ?_)
                        have hR := HM_row15 0 (q60.toNatClampNeg) ((gI q83 15 0 q60.toNatClampNeg) - x79) hR
                        refine lv_aload_n hx hb dX6_matches_244 rfl (lv_at hl 4 rfl) ?_
                        refine va_get (D := D) (ci := 7) (C := RX6) (T := TX6) (N := 22) hx hb hts iuX6 hown hK.1 (WW_one hR (f := 0) (i := 0) rfl) 0 rfl rfl 16 (by decide) (hts _ q_824) (fun _ h9 => h9) rfl dX6_matches_245 ?_
                        refine lv_iload_n hx hb dX6_matches_248 rfl (lv_at hl 5 rfl) ?_
                        refine lv_dup2_11 hx hb dX6_matches_249 rfl rfl ?_
                        refine va_iald hx hb hK.1 (WW_one hR (f := 15) (i := 0) rfl) 0 0 rfl rfl g3 dX6_matches_250 ?_
                        refine lv_iload hx hb dX6_matches_251 (lv_at hl 0 rfl) ?_
                        refine lv_isub hx hb dX6_matches_253 ?_
                        refine ww_iast hx hb hK.1 hR hS 0 (f := 15) (j := 0) rfl rfl rfl g3 dX6_matches_254 (fun H locs hR hS => ?_)
                        have hR := HM_row15 0 (v1.toNatClampNeg) ((gI (pI q83 15 0 q60.toNatClampNeg ((gI q83 15 0 q60.toNatClampNeg) - x79)) 15 0 v1.toNatClampNeg) - x79) hR
                        refine lv_goto (tgt := 9) hx hb dX6_matches_255 (by decide) ?_
                        exact ih _ _ _ (pI (pI q83 15 0 q60.toNatClampNeg ((gI q83 15 0 q60.toNatClampNeg) - x79)) 15 0 v1.toNatClampNeg ((gI (pI q83 15 0 q60.toNatClampNeg ((gI q83 15 0 q60.toNatClampNeg) - x79)) 15 0 v1.toNatClampNeg) - x79)) 0 v2 v1 hR hS (lv_sub hl [1, 3, 4, 5] rfl) hf
                    · have hf := if_of_neg hf c80
                      refine lv_aload_n hx hb dX6_matches_178 rfl (lv_at hl 4 rfl) ?_
                      refine va_get (D := D) (ci := 7) (C := RX6) (T := TX6) (N := 22) hx hb hts iuX6 hown hK.1 (WW_one hR (f := 0) (i := 0) rfl) 0 rfl rfl 12 (by decide) (hts _ q_820) (fun _ h9 => h9) rfl dX6_matches_179 ?_
                      refine lv_iload_n hx hb dX6_matches_182 rfl (lv_at hl 5 rfl) ?_
                      refine va_iald hx hb hK.1 (WW_one hR (f := 11) (i := 0) rfl) 0 0 rfl rfl g3 dX6_matches_183 ?_
                      refine lv_goto (tgt := 194) hx hb dX6_matches_184 (by decide) ?_
                      refine lv_aload_n hx hb dX6_matches_194 rfl (lv_at hl 4 rfl) ?_
                      refine va_get (D := D) (ci := 7) (C := RX6) (T := TX6) (N := 22) hx hb hts iuX6 hown hK.1 (WW_one hR (f := 0) (i := 0) rfl) 0 rfl rfl 14 (by decide) (hts _ q_822) (fun _ h9 => h9) rfl dX6_matches_195 ?_
                      refine lv_iload_n hx hb dX6_matches_198 rfl (lv_at hl 5 rfl) ?_
                      refine va_zald hx hb hK.1 (WW_one hR (f := 13) (i := 0) rfl) 0 2 rfl rfl g3 dX6_matches_199 ?_
                      refine lv_if_eq (tgt := 213) hx hb dX6_matches_200 (by decide) (fun c84 => ?_) (fun c84 => ?_)
                      · have hf := if_of_pos hf c84
                        refine lv_aload_n hx hb dX6_matches_213 rfl (lv_at hl 4 rfl) ?_
                        refine va_get (D := D) (ci := 7) (C := RX6) (T := TX6) (N := 22) hx hb hts iuX6 hown hK.1 (WW_one hR (f := 0) (i := 0) rfl) 0 rfl rfl 12 (by decide) (hts _ q_820) (fun _ h9 => h9) rfl dX6_matches_214 ?_
                        refine lv_iload_n hx hb dX6_matches_217 rfl (lv_at hl 5 rfl) ?_
                        refine va_iald hx hb hK.1 (WW_one hR (f := 11) (i := 0) rfl) 0 0 rfl rfl g3 dX6_matches_218 ?_
                        refine lv_iload_n hx hb dX6_matches_219 rfl (lv_at hl 3 rfl) ?_
                        refine lv_iload hx hb dX6_matches_220 (lv_at hl 0 rfl) ?_
                        refine lv_aload_n hx hb dX6_matches_222 rfl (lv_at hl 4 rfl) ?_
                        refine va_get (D := D) (ci := 7) (C := RX6) (T := TX6) (N := 22) hx hb hts iuX6 hown hK.1 (WW_one hR (f := 0) (i := 0) rfl) 0 rfl rfl 15 (by decide) (hts _ q_823) (fun _ h9 => h9) rfl dX6_matches_223 ?_
                        refine lv_iload hx hb dX6_matches_226 (lv_at hl 2 rfl) ?_
                        refine va_iald hx hb hK.1 (WW_one hR (f := 14) (i := 0) rfl) 0 0 rfl rfl g65 dX6_matches_228 ?_
                        obtain ⟨q85, hcq85, hf⟩ := bd_of hf
                        refine kc_v (va_runV (As := [.int (gI σ 11 0 v1.toNatClampNeg), .int (gI σ 11 0 v1.toNatClampNeg), .int v2, .int x79, .int (gI σ 14 0 q60.toNatClampNeg)]) (rest := []) ⟨hx, hb, hml, hown, hts⟩ (mX6_trade l D dA ad σ _ (gI σ 11 0 v1.toNatClampNeg) (gI σ 11 0 v1.toNatClampNeg) v2 x79 (gI σ 14 0 q60.toNatClampNeg) q85 hcq85) (cwV 5 hts gX6_127 rfl rfl rfl (by decide +kernel) ⟨Nat.le_of_ble_eq_true rfl, Nat.le_of_ble_eq_true rfl⟩) (preV_of hR hK (f := 0) (i := 0) rfl rfl rfl _) rfl rfl hl.1 rfl (lv_room (Nat.le_of_ble_eq_true rfl)) dX6_matches_229 ⟨Nat.zero_le _, Nat.zero_le _⟩) hA hR hS (fun H locs hR hS => ?_)
                        refine lv_aload_n hx hb dX6_matches_232 rfl (lv_at hl 4 rfl) ?_
                        refine va_get (D := D) (ci := 7) (C := RX6) (T := TX6) (N := 22) hx hb hts iuX6 hown hK.1 (WW_one hR (f := 0) (i := 0) rfl) 0 rfl rfl 16 (by decide) (hts _ q_824) (fun _ h9 => h9) rfl dX6_matches_233 ?_
                        refine lv_iload hx hb dX6_matches_236 (lv_at hl 2 rfl) ?_
                        refine lv_dup2_11 hx hb dX6_matches_238 rfl rfl ?_
                        refine va_iald hx hb hK.1 (WW_one hR (f := 15) (i := 0) rfl) 0 0 rfl rfl g65 dX6_matches_239 ?_
                        refine lv_iload hx hb dX6_matches_240 (lv_at hl 0 rfl) ?_
                        refine lv_isub hx hb dX6_matches_242 ?_
                        refine ww_iast hx hb hK.1 hR hS 0 (f := 15) (j := 0) rfl rfl rfl g65 dX6_matches_243 (fun H locs hR hS => ?_)
                        have hR := HM_row15 0 (q60.toNatClampNeg) ((gI q85 15 0 q60.toNatClampNeg) - x79) hR
                        refine lv_aload_n hx hb dX6_matches_244 rfl (lv_at hl 4 rfl) ?_
                        refine va_get (D := D) (ci := 7) (C := RX6) (T := TX6) (N := 22) hx hb hts iuX6 hown hK.1 (WW_one hR (f := 0) (i := 0) rfl) 0 rfl rfl 16 (by decide) (hts _ q_824) (fun _ h9 => h9) rfl dX6_matches_245 ?_
                        refine lv_iload_n hx hb dX6_matches_248 rfl (lv_at hl 5 rfl) ?_
                        refine lv_dup2_11 hx hb dX6_matches_249 rfl rfl ?_
                        refine va_iald hx hb hK.1 (WW_one hR (f := 15) (i := 0) rfl) 0 0 rfl rfl g3 dX6_matches_250 ?_
                        refine lv_iload hx hb dX6_matches_251 (lv_at hl 0 rfl) ?_
                        refine lv_isub hx hb dX6_matches_253 ?_
                        refine ww_iast hx hb hK.1 hR hS 0 (f := 15) (j := 0) rfl rfl rfl g3 dX6_matches_254 (fun H locs hR hS => ?_)
                        have hR := HM_row15 0 (v1.toNatClampNeg) ((gI (pI q85 15 0 q60.toNatClampNeg ((gI q85 15 0 q60.toNatClampNeg) - x79)) 15 0 v1.toNatClampNeg) - x79) hR
                        refine lv_goto (tgt := 9) hx hb dX6_matches_255 (by decide) ?_
                        exact ih _ _ _ (pI (pI q85 15 0 q60.toNatClampNeg ((gI q85 15 0 q60.toNatClampNeg) - x79)) 15 0 v1.toNatClampNeg ((gI (pI q85 15 0 q60.toNatClampNeg ((gI q85 15 0 q60.toNatClampNeg) - x79)) 15 0 v1.toNatClampNeg) - x79)) 0 v2 v1 hR hS (lv_sub hl [1, 3, 4, 5] rfl) hf
                      · have hf := if_of_neg hf c84
                        refine lv_aload_n hx hb dX6_matches_203 rfl (lv_at hl 4 rfl) ?_
                        refine va_get (D := D) (ci := 7) (C := RX6) (T := TX6) (N := 22) hx hb hts iuX6 hown hK.1 (WW_one hR (f := 0) (i := 0) rfl) 0 rfl rfl 12 (by decide) (hts _ q_820) (fun _ h9 => h9) rfl dX6_matches_204 ?_
                        refine lv_iload hx hb dX6_matches_207 (lv_at hl 2 rfl) ?_
                        refine va_iald hx hb hK.1 (WW_one hR (f := 11) (i := 0) rfl) 0 0 rfl rfl g65 dX6_matches_209 ?_
                        refine lv_goto (tgt := 219) hx hb dX6_matches_210 (by decide) ?_
                        refine lv_iload_n hx hb dX6_matches_219 rfl (lv_at hl 3 rfl) ?_
                        refine lv_iload hx hb dX6_matches_220 (lv_at hl 0 rfl) ?_
                        refine lv_aload_n hx hb dX6_matches_222 rfl (lv_at hl 4 rfl) ?_
                        refine va_get (D := D) (ci := 7) (C := RX6) (T := TX6) (N := 22) hx hb hts iuX6 hown hK.1 (WW_one hR (f := 0) (i := 0) rfl) 0 rfl rfl 15 (by decide) (hts _ q_823) (fun _ h9 => h9) rfl dX6_matches_223 ?_
                        refine lv_iload hx hb dX6_matches_226 (lv_at hl 2 rfl) ?_
                        refine va_iald hx hb hK.1 (WW_one hR (f := 14) (i := 0) rfl) 0 0 rfl rfl g65 dX6_matches_228 ?_
                        obtain ⟨q86, hcq86, hf⟩ := bd_of hf
                        refine kc_v (va_runV (As := [.int (gI σ 11 0 v1.toNatClampNeg), .int (gI σ 11 0 q60.toNatClampNeg), .int v2, .int x79, .int (gI σ 14 0 q60.toNatClampNeg)]) (rest := []) ⟨hx, hb, hml, hown, hts⟩ (mX6_trade l D dA ad σ _ (gI σ 11 0 v1.toNatClampNeg) (gI σ 11 0 q60.toNatClampNeg) v2 x79 (gI σ 14 0 q60.toNatClampNeg) q86 hcq86) (cwV 5 hts gX6_127 rfl rfl rfl (by decide +kernel) ⟨Nat.le_of_ble_eq_true rfl, Nat.le_of_ble_eq_true rfl⟩) (preV_of hR hK (f := 0) (i := 0) rfl rfl rfl _) rfl rfl hl.1 rfl (lv_room (Nat.le_of_ble_eq_true rfl)) dX6_matches_229 ⟨Nat.zero_le _, Nat.zero_le _⟩) hA hR hS (fun H locs hR hS => ?_)
                        refine lv_aload_n hx hb dX6_matches_232 rfl (lv_at hl 4 rfl) ?_
                        refine va_get (D := D) (ci := 7) (C := RX6) (T := TX6) (N := 22) hx hb hts iuX6 hown hK.1 (WW_one hR (f := 0) (i := 0) rfl) 0 rfl rfl 16 (by decide) (hts _ q_824) (fun _ h9 => h9) rfl dX6_matches_233 ?_
                        refine lv_iload hx hb dX6_matches_236 (lv_at hl 2 rfl) ?_
                        refine lv_dup2_11 hx hb dX6_matches_238 rfl rfl ?_
                        refine va_iald hx hb hK.1 (WW_one hR (f := 15) (i := 0) rfl) 0 0 rfl rfl g65 dX6_matches_239 ?_
                        refine lv_iload hx hb dX6_matches_240 (lv_at hl 0 rfl) ?_
                        refine lv_isub hx hb dX6_matches_242 ?_
                        refine ww_iast hx hb hK.1 hR hS 0 (f := 15) (j := 0) rfl rfl rfl g65 dX6_matches_243 (fun H locs hR hS => ?_)
                        have hR := HM_row15 0 (q60.toNatClampNeg) ((gI q86 15 0 q60.toNatClampNeg) - x79) hR
                        refine lv_aload_n hx hb dX6_matches_244 rfl (lv_at hl 4 rfl) ?_
                        refine va_get (D := D) (ci := 7) (C := RX6) (T := TX6) (N := 22) hx hb hts iuX6 hown hK.1 (WW_one hR (f := 0) (i := 0) rfl) 0 rfl rfl 16 (by decide) (hts _ q_824) (fun _ h9 => h9) rfl dX6_matches_245 ?_
                        refine lv_iload_n hx hb dX6_matches_248 rfl (lv_at hl 5 rfl) ?_
                        refine lv_dup2_11 hx hb dX6_matches_249 rfl rfl ?_
                        refine va_iald hx hb hK.1 (WW_one hR (f := 15) (i := 0) rfl) 0 0 rfl rfl g3 dX6_matches_250 ?_
                        refine lv_iload hx hb dX6_matches_251 (lv_at hl 0 rfl) ?_
                        refine lv_isub hx hb dX6_matches_253 ?_
                        refine ww_iast hx hb hK.1 hR hS 0 (f := 15) (j := 0) rfl rfl rfl g3 dX6_matches_254 (fun H locs hR hS => ?_)
                        have hR := HM_row15 0 (v1.toNatClampNeg) ((gI (pI q86 15 0 q60.toNatClampNeg ((gI q86 15 0 q60.toNatClampNeg) - x79)) 15 0 v1.toNatClampNeg) - x79) hR
                        refine lv_goto (tgt := 9) hx hb dX6_matches_255 (by decide) ?_
                        exact ih _ _ _ (pI (pI q86 15 0 q60.toNatClampNeg ((gI q86 15 0 q60.toNatClampNeg) - x79)) 15 0 v1.toNatClampNeg ((gI (pI q86 15 0 q60.toNatClampNeg ((gI q86 15 0 q60.toNatClampNeg) - x79)) 15 0 v1.toNatClampNeg) - x79)) 0 v2 v1 hR hS (lv_sub hl [1, 3, 4, 5] rfl) hf
                · have hf := if_of_neg hf (fun q => q c68)
                  refine lv_aload_n hx hb dX6_matches_119 rfl (lv_at hl 3 rfl) ?_
                  refine va_get (D := D) (ci := 7) (C := RX6) (T := TX6) (N := 22) hx hb hts iuX6 hown hK.1 (WW_one hR (f := 0) (i := 0) rfl) 0 rfl rfl 16 (by decide) (hts _ q_824) (fun _ h9 => h9) rfl dX6_matches_120 ?_
                  refine lv_iload hx hb dX6_matches_123 (lv_at hl 1 rfl) ?_
                  refine lv_iconst (v := 0) hx hb dX6_matches_125 (by decide) ?_
                  refine ww_iast hx hb hK.1 hR hS 0 (f := 15) (j := 0) rfl rfl rfl g65 dX6_matches_126 (fun H locs hR hS => ?_)
                  have hR := HM_row15 0 (q60.toNatClampNeg) 0 hR
                  refine lv_goto (tgt := 255) hx hb dX6_matches_127 (by decide) ?_
                  refine lv_goto (tgt := 9) hx hb dX6_matches_255 (by decide) ?_
                  exact ih _ _ _ (pI σ 15 0 q60.toNatClampNeg 0) 0 v2 v1 hR hS (lv_sub hl [0, 2, 3, 4] rfl) hf
              · have hf := if_of_neg hf c66
                refine lv_iconst (v := 1) hx hb dX6_matches_93 (by decide) ?_
                refine lv_goto (tgt := 98) hx hb dX6_matches_94 (by decide) ?_
                refine lv_istore_n (lv' := [(3, .int 1), (4, .int q60), (2, .int v2), (0, .ref (ad 0 0)), (1, .int v1)]) hx hb dX6_matches_98 rfl hl (by decide) rfl (fun ls hl => ?_)
                refine lv_iload_n hx hb dX6_matches_99 rfl (lv_at hl 0 rfl) ?_
                refine lv_if_ne (tgt := 130) hx hb dX6_matches_100 (by decide) (fun c87 => ?_) (fun c87 => absurd c87 (by decide))
                refine lv_iload_n hx hb dX6_matches_130 rfl (lv_at hl 0 rfl) ?_
                refine lv_if_ne (tgt := 255) hx hb dX6_matches_131 (by decide) (fun c88 => ?_) (fun c88 => absurd c88 (by decide))
                refine lv_goto (tgt := 9) hx hb dX6_matches_255 (by decide) ?_
                exact ih _ _ _ σ 1 v2 v1 hR hS (lv_sub hl [0, 2, 3, 4] rfl) hf
            · have hf := if_of_neg hf c64
              refine lv_aload_n hx hb dX6_matches_58 rfl (lv_at hl 3 rfl) ?_
              refine va_get (D := D) (ci := 7) (C := RX6) (T := TX6) (N := 22) hx hb hts iuX6 hown hK.1 (WW_one hR (f := 0) (i := 0) rfl) 0 rfl rfl 15 (by decide) (hts _ q_823) (fun _ h9 => h9) rfl dX6_matches_59 ?_
              refine lv_iload_n hx hb dX6_matches_62 rfl (lv_at hl 4 rfl) ?_
              refine va_iald hx hb hK.1 (WW_one hR (f := 14) (i := 0) rfl) 0 0 rfl rfl g3 dX6_matches_63 ?_
              refine lv_aload_n hx hb dX6_matches_64 rfl (lv_at hl 3 rfl) ?_
              refine va_get (D := D) (ci := 7) (C := RX6) (T := TX6) (N := 22) hx hb hts iuX6 hown hK.1 (WW_one hR (f := 0) (i := 0) rfl) 0 rfl rfl 15 (by decide) (hts _ q_823) (fun _ h9 => h9) rfl dX6_matches_65 ?_
              refine lv_iload hx hb dX6_matches_68 (lv_at hl 0 rfl) ?_
              obtain ⟨g89, hf⟩ := gd_of hf
              refine va_iald hx hb hK.1 (WW_one hR (f := 14) (i := 0) rfl) 0 0 rfl rfl g89 dX6_matches_70 ?_
              refine lv_icmp_ge (tgt := 97) hx hb dX6_matches_71 (by decide) (fun c90 => ?_) (fun c90 => ?_)
              · have hf := if_of_pos hf c90
                refine lv_iconst (v := 0) hx hb dX6_matches_97 (by decide) ?_
                refine lv_istore_n (lv' := [(3, .int 0), (4, .int q60), (2, .int v2), (0, .ref (ad 0 0)), (1, .int v1)]) hx hb dX6_matches_98 rfl hl (by decide) rfl (fun ls hl => ?_)
                refine lv_iload_n hx hb dX6_matches_99 rfl (lv_at hl 0 rfl) ?_
                refine lv_if_ne (tgt := 130) hx hb dX6_matches_100 (by decide) (fun c91 => absurd c91 (by decide)) (fun c91 => ?_)
                refine lv_aload_n hx hb dX6_matches_103 rfl (lv_at hl 3 rfl) ?_
                refine va_get (D := D) (ci := 7) (C := RX6) (T := TX6) (N := 22) hx hb hts iuX6 hown hK.1 (WW_one hR (f := 0) (i := 0) rfl) 0 rfl rfl 12 (by decide) (hts _ q_820) (fun _ h9 => h9) rfl dX6_matches_104 ?_
                refine lv_iload hx hb dX6_matches_107 (lv_at hl 1 rfl) ?_
                refine va_iald hx hb hK.1 (WW_one hR (f := 11) (i := 0) rfl) 0 0 rfl rfl g89 dX6_matches_109 ?_
                refine lv_aload_n hx hb dX6_matches_110 rfl (lv_at hl 3 rfl) ?_
                refine va_get (D := D) (ci := 7) (C := RX6) (T := TX6) (N := 22) hx hb hts iuX6 hown hK.1 (WW_one hR (f := 0) (i := 0) rfl) 0 rfl rfl 12 (by decide) (hts _ q_820) (fun _ h9 => h9) rfl dX6_matches_111 ?_
                refine lv_iload_n hx hb dX6_matches_114 rfl (lv_at hl 4 rfl) ?_
                refine va_iald hx hb hK.1 (WW_one hR (f := 11) (i := 0) rfl) 0 0 rfl rfl g3 dX6_matches_115 ?_
                refine lv_icmp_ne (tgt := 130) hx hb dX6_matches_116 (by decide) (fun c92 => ?_) (fun c92 => ?_)
                · have hf := if_of_pos hf c92
                  refine lv_iload_n hx hb dX6_matches_130 rfl (lv_at hl 0 rfl) ?_
                  refine lv_if_ne (tgt := 255) hx hb dX6_matches_131 (by decide) (fun c93 => absurd c93 (by decide)) (fun c93 => ?_)
                  refine lv_aload_n hx hb dX6_matches_134 rfl (lv_at hl 3 rfl) ?_
                  refine va_get (D := D) (ci := 7) (C := RX6) (T := TX6) (N := 22) hx hb hts iuX6 hown hK.1 (WW_one hR (f := 0) (i := 0) rfl) 0 rfl rfl 16 (by decide) (hts _ q_824) (fun _ h9 => h9) rfl dX6_matches_135 ?_
                  refine lv_iload hx hb dX6_matches_138 (lv_at hl 1 rfl) ?_
                  refine va_iald hx hb hK.1 (WW_one hR (f := 15) (i := 0) rfl) 0 0 rfl rfl g89 dX6_matches_140 ?_
                  refine lv_aload_n hx hb dX6_matches_141 rfl (lv_at hl 3 rfl) ?_
                  refine va_get (D := D) (ci := 7) (C := RX6) (T := TX6) (N := 22) hx hb hts iuX6 hown hK.1 (WW_one hR (f := 0) (i := 0) rfl) 0 rfl rfl 16 (by decide) (hts _ q_824) (fun _ h9 => h9) rfl dX6_matches_142 ?_
                  refine lv_iload_n hx hb dX6_matches_145 rfl (lv_at hl 4 rfl) ?_
                  refine va_iald hx hb hK.1 (WW_one hR (f := 15) (i := 0) rfl) 0 0 rfl rfl g3 dX6_matches_146 ?_
                  refine lv_icmp_ge (tgt := 160) hx hb dX6_matches_147 (by decide) (fun c94 => ?_) (fun c94 => ?_)
                  · have hf := if_of_pos hf c94
                    refine lv_aload_n hx hb dX6_matches_160 rfl (lv_at hl 3 rfl) ?_
                    refine va_get (D := D) (ci := 7) (C := RX6) (T := TX6) (N := 22) hx hb hts iuX6 hown hK.1 (WW_one hR (f := 0) (i := 0) rfl) 0 rfl rfl 16 (by decide) (hts _ q_824) (fun _ h9 => h9) rfl dX6_matches_161 ?_
                    refine lv_iload_n hx hb dX6_matches_164 rfl (lv_at hl 4 rfl) ?_
                    refine va_iald hx hb hK.1 (WW_one hR (f := 15) (i := 0) rfl) 0 0 rfl rfl g3 dX6_matches_165 ?_
                    refine lv_topi (fun x95 hx95 => ?_)
                    have hf := kst_eq hx95 hf
                    refine lv_istore (lv' := [(5, .int x95), (3, .int 0), (4, .int q60), (2, .int v2), (0, .ref (ad 0 0)), (1, .int v1)]) hx hb dX6_matches_166 hl (by decide) rfl (fun ls hl => ?_)
                    refine lv_aload_n hx hb dX6_matches_168 rfl (lv_at hl 4 rfl) ?_
                    refine lv_aload_n hx hb dX6_matches_169 rfl (lv_at hl 4 rfl) ?_
                    refine va_get (D := D) (ci := 7) (C := RX6) (T := TX6) (N := 22) hx hb hts iuX6 hown hK.1 (WW_one hR (f := 0) (i := 0) rfl) 0 rfl rfl 14 (by decide) (hts _ q_822) (fun _ h9 => h9) rfl dX6_matches_170 ?_
                    refine lv_iload_n hx hb dX6_matches_173 rfl (lv_at hl 5 rfl) ?_
                    refine va_zald hx hb hK.1 (WW_one hR (f := 13) (i := 0) rfl) 0 2 rfl rfl g3 dX6_matches_174 ?_
                    refine lv_if_eq (tgt := 187) hx hb dX6_matches_175 (by decide) (fun c96 => ?_) (fun c96 => ?_)
                    · have hf := if_of_pos hf c96
                      refine lv_aload_n hx hb dX6_matches_187 rfl (lv_at hl 4 rfl) ?_
                      refine va_get (D := D) (ci := 7) (C := RX6) (T := TX6) (N := 22) hx hb hts iuX6 hown hK.1 (WW_one hR (f := 0) (i := 0) rfl) 0 rfl rfl 12 (by decide) (hts _ q_820) (fun _ h9 => h9) rfl dX6_matches_188 ?_
                      refine lv_iload hx hb dX6_matches_191 (lv_at hl 2 rfl) ?_
                      refine va_iald hx hb hK.1 (WW_one hR (f := 11) (i := 0) rfl) 0 0 rfl rfl g89 dX6_matches_193 ?_
                      refine lv_aload_n hx hb dX6_matches_194 rfl (lv_at hl 4 rfl) ?_
                      refine va_get (D := D) (ci := 7) (C := RX6) (T := TX6) (N := 22) hx hb hts iuX6 hown hK.1 (WW_one hR (f := 0) (i := 0) rfl) 0 rfl rfl 14 (by decide) (hts _ q_822) (fun _ h9 => h9) rfl dX6_matches_195 ?_
                      refine lv_iload_n hx hb dX6_matches_198 rfl (lv_at hl 5 rfl) ?_
                      refine va_zald hx hb hK.1 (WW_one hR (f := 13) (i := 0) rfl) 0 2 rfl rfl g3 dX6_matches_199 ?_
                      refine lv_if_eq (tgt := 213) hx hb dX6_matches_200 (by decide) (fun c97 => ?_) (fun c97 => ?_)
                      · have hf := if_of_pos hf c97
                        refine lv_aload_n hx hb dX6_matches_213 rfl (lv_at hl 4 rfl) ?_
                        refine va_get (D := D) (ci := 7) (C := RX6) (T := TX6) (N := 22) hx hb hts iuX6 hown hK.1 (WW_one hR (f := 0) (i := 0) rfl) 0 rfl rfl 12 (by decide) (hts _ q_820) (fun _ h9 => h9) rfl dX6_matches_214 ?_
                        refine lv_iload_n hx hb dX6_matches_217 rfl (lv_at hl 5 rfl) ?_
                        refine va_iald hx hb hK.1 (WW_one hR (f := 11) (i := 0) rfl) 0 0 rfl rfl g3 dX6_matches_218 ?_
                        refine lv_iload_n hx hb dX6_matches_219 rfl (lv_at hl 3 rfl) ?_
                        refine lv_iload hx hb dX6_matches_220 (lv_at hl 0 rfl) ?_
                        refine lv_aload_n hx hb dX6_matches_222 rfl (lv_at hl 4 rfl) ?_
                        refine va_get (D := D) (ci := 7) (C := RX6) (T := TX6) (N := 22) hx hb hts iuX6 hown hK.1 (WW_one hR (f := 0) (i := 0) rfl) 0 rfl rfl 15 (by decide) (hts _ q_823) (fun _ h9 => h9) rfl dX6_matches_223 ?_
                        refine lv_iload hx hb dX6_matches_226 (lv_at hl 2 rfl) ?_
                        refine va_iald hx hb hK.1 (WW_one hR (f := 14) (i := 0) rfl) 0 0 rfl rfl g89 dX6_matches_228 ?_
                        obtain ⟨q98, hcq98, hf⟩ := bd_of hf
                        refine kc_v (va_runV (As := [.int (gI σ 11 0 q60.toNatClampNeg), .int (gI σ 11 0 v1.toNatClampNeg), .int v2, .int x95, .int (gI σ 14 0 q60.toNatClampNeg)]) (rest := []) ⟨hx, hb, hml, hown, hts⟩ (mX6_trade l D dA ad σ _ (gI σ 11 0 q60.toNatClampNeg) (gI σ 11 0 v1.toNatClampNeg) v2 x95 (gI σ 14 0 q60.toNatClampNeg) q98 hcq98) (cwV 5 hts gX6_127 rfl rfl rfl (by decide +kernel) ⟨Nat.le_of_ble_eq_true rfl, Nat.le_of_ble_eq_true rfl⟩) (preV_of hR hK (f := 0) (i := 0) rfl rfl rfl _) rfl rfl hl.1 rfl (lv_room (Nat.le_of_ble_eq_true rfl)) dX6_matches_229 ⟨Nat.zero_le _, Nat.zero_le _⟩) hA hR hS (fun H locs hR hS => ?_)
                        refine lv_aload_n hx hb dX6_matches_232 rfl (lv_at hl 4 rfl) ?_
                        refine va_get (D := D) (ci := 7) (C := RX6) (T := TX6) (N := 22) hx hb hts iuX6 hown hK.1 (WW_one hR (f := 0) (i := 0) rfl) 0 rfl rfl 16 (by decide) (hts _ q_824) (fun _ h9 => h9) rfl dX6_matches_233 ?_
                        refine lv_iload hx hb dX6_matches_236 (lv_at hl 2 rfl) ?_
                        refine lv_dup2_11 hx hb dX6_matches_238 rfl rfl ?_
                        refine va_iald hx hb hK.1 (WW_one hR (f := 15) (i := 0) rfl) 0 0 rfl rfl g89 dX6_matches_239 ?_
                        refine lv_iload hx hb dX6_matches_240 (lv_at hl 0 rfl) ?_
                        refine lv_isub hx hb dX6_matches_242 ?_
                        refine ww_iast hx hb hK.1 hR hS 0 (f := 15) (j := 0) rfl rfl rfl g89 dX6_matches_243 (fun H locs hR hS => ?_)
                        have hR := HM_row15 0 (q60.toNatClampNeg) ((gI q98 15 0 q60.toNatClampNeg) - x95) hR
                        refine lv_aload_n hx hb dX6_matches_244 rfl (lv_at hl 4 rfl) ?_
                        refine va_get (D := D) (ci := 7) (C := RX6) (T := TX6) (N := 22) hx hb hts iuX6 hown hK.1 (WW_one hR (f := 0) (i := 0) rfl) 0 rfl rfl 16 (by decide) (hts _ q_824) (fun _ h9 => h9) rfl dX6_matches_245 ?_
                        refine lv_iload_n hx hb dX6_matches_248 rfl (lv_at hl 5 rfl) ?_
                        refine lv_dup2_11 hx hb dX6_matches_249 rfl rfl ?_
                        refine va_iald hx hb hK.1 (WW_one hR (f := 15) (i := 0) rfl) 0 0 rfl rfl g3 dX6_matches_250 ?_
                        refine lv_iload hx hb dX6_matches_251 (lv_at hl 0 rfl) ?_
                        refine lv_isub hx hb dX6_matches_253 ?_
                        refine ww_iast hx hb hK.1 hR hS 0 (f := 15) (j := 0) rfl rfl rfl g3 dX6_matches_254 (fun H locs hR hS => ?_)
                        have hR := HM_row15 0 (v1.toNatClampNeg) ((gI (pI q98 15 0 q60.toNatClampNeg ((gI q98 15 0 q60.toNatClampNeg) - x95)) 15 0 v1.toNatClampNeg) - x95) hR
                        refine lv_goto (tgt := 9) hx hb dX6_matches_255 (by decide) ?_
                        exact ih _ _ _ (pI (pI q98 15 0 q60.toNatClampNeg ((gI q98 15 0 q60.toNatClampNeg) - x95)) 15 0 v1.toNatClampNeg ((gI (pI q98 15 0 q60.toNatClampNeg ((gI q98 15 0 q60.toNatClampNeg) - x95)) 15 0 v1.toNatClampNeg) - x95)) 0 v2 v1 hR hS (lv_sub hl [1, 3, 4, 5] rfl) hf
                      · have hf := if_of_neg hf c97
                        refine lv_aload_n hx hb dX6_matches_203 rfl (lv_at hl 4 rfl) ?_
                        refine va_get (D := D) (ci := 7) (C := RX6) (T := TX6) (N := 22) hx hb hts iuX6 hown hK.1 (WW_one hR (f := 0) (i := 0) rfl) 0 rfl rfl 12 (by decide) (hts _ q_820) (fun _ h9 => h9) rfl dX6_matches_204 ?_
                        refine lv_iload hx hb dX6_matches_207 (lv_at hl 2 rfl) ?_
                        refine va_iald hx hb hK.1 (WW_one hR (f := 11) (i := 0) rfl) 0 0 rfl rfl g89 dX6_matches_209 ?_
                        refine lv_goto (tgt := 219) hx hb dX6_matches_210 (by decide) ?_
                        refine lv_iload_n hx hb dX6_matches_219 rfl (lv_at hl 3 rfl) ?_
                        refine lv_iload hx hb dX6_matches_220 (lv_at hl 0 rfl) ?_
                        refine lv_aload_n hx hb dX6_matches_222 rfl (lv_at hl 4 rfl) ?_
                        refine va_get (D := D) (ci := 7) (C := RX6) (T := TX6) (N := 22) hx hb hts iuX6 hown hK.1 (WW_one hR (f := 0) (i := 0) rfl) 0 rfl rfl 15 (by decide) (hts _ q_823) (fun _ h9 => h9) rfl dX6_matches_223 ?_
                        refine lv_iload hx hb dX6_matches_226 (lv_at hl 2 rfl) ?_
                        refine va_iald hx hb hK.1 (WW_one hR (f := 14) (i := 0) rfl) 0 0 rfl rfl g89 dX6_matches_228 ?_
                        obtain ⟨q99, hcq99, hf⟩ := bd_of hf
                        refine kc_v (va_runV (As := [.int (gI σ 11 0 q60.toNatClampNeg), .int (gI σ 11 0 q60.toNatClampNeg), .int v2, .int x95, .int (gI σ 14 0 q60.toNatClampNeg)]) (rest := []) ⟨hx, hb, hml, hown, hts⟩ (mX6_trade l D dA ad σ _ (gI σ 11 0 q60.toNatClampNeg) (gI σ 11 0 q60.toNatClampNeg) v2 x95 (gI σ 14 0 q60.toNatClampNeg) q99 hcq99) (cwV 5 hts gX6_127 rfl rfl rfl (by decide +kernel) ⟨Nat.le_of_ble_eq_true rfl, Nat.le_of_ble_eq_true rfl⟩) (preV_of hR hK (f := 0) (i := 0) rfl rfl rfl _) rfl rfl hl.1 rfl (lv_room (Nat.le_of_ble_eq_true rfl)) dX6_matches_229 ⟨Nat.zero_le _, Nat.zero_le _⟩) hA hR hS (fun H locs hR hS => ?_)
                        refine lv_aload_n hx hb dX6_matches_232 rfl (lv_at hl 4 rfl) ?_
                        refine va_get (D := D) (ci := 7) (C := RX6) (T := TX6) (N := 22) hx hb hts iuX6 hown hK.1 (WW_one hR (f := 0) (i := 0) rfl) 0 rfl rfl 16 (by decide) (hts _ q_824) (fun _ h9 => h9) rfl dX6_matches_233 ?_
                        refine lv_iload hx hb dX6_matches_236 (lv_at hl 2 rfl) ?_
                        refine lv_dup2_11 hx hb dX6_matches_238 rfl rfl ?_
                        refine va_iald hx hb hK.1 (WW_one hR (f := 15) (i := 0) rfl) 0 0 rfl rfl g89 dX6_matches_239 ?_
                        refine lv_iload hx hb dX6_matches_240 (lv_at hl 0 rfl) ?_
                        refine lv_isub hx hb dX6_matches_242 ?_
                        refine ww_iast hx hb hK.1 hR hS 0 (f := 15) (j := 0) rfl rfl rfl g89 dX6_matches_243 (fun H locs hR hS => ?_)
                        have hR := HM_row15 0 (q60.toNatClampNeg) ((gI q99 15 0 q60.toNatClampNeg) - x95) hR
                        refine lv_aload_n hx hb dX6_matches_244 rfl (lv_at hl 4 rfl) ?_
                        refine va_get (D := D) (ci := 7) (C := RX6) (T := TX6) (N := 22) hx hb hts iuX6 hown hK.1 (WW_one hR (f := 0) (i := 0) rfl) 0 rfl rfl 16 (by decide) (hts _ q_824) (fun _ h9 => h9) rfl dX6_matches_245 ?_
                        refine lv_iload_n hx hb dX6_matches_248 rfl (lv_at hl 5 rfl) ?_
                        refine lv_dup2_11 hx hb dX6_matches_249 rfl rfl ?_
                        refine va_iald hx hb hK.1 (WW_one hR (f := 15) (i := 0) rfl) 0 0 rfl rfl g3 dX6_matches_250 ?_
                        refine lv_iload hx hb dX6_matches_251 (lv_at hl 0 rfl) ?_
                        refine lv_isub hx hb dX6_matches_253 ?_
                        refine ww_iast hx hb hK.1 hR hS 0 (f := 15) (j := 0) rfl rfl rfl g3 dX6_matches_254 (fun H locs hR hS => ?_)
                        have hR := HM_row15 0 (v1.toNatClampNeg) ((gI (pI q99 15 0 q60.toNatClampNeg ((gI q99 15 0 q60.toNatClampNeg) - x95)) 15 0 v1.toNatClampNeg) - x95) hR
                        refine lv_goto (tgt := 9) hx hb dX6_matches_255 (by decide) ?_
                        exact ih _ _ _ (pI (pI q99 15 0 q60.toNatClampNeg ((gI q99 15 0 q60.toNatClampNeg) - x95)) 15 0 v1.toNatClampNeg ((gI (pI q99 15 0 q60.toNatClampNeg ((gI q99 15 0 q60.toNatClampNeg) - x95)) 15 0 v1.toNatClampNeg) - x95)) 0 v2 v1 hR hS (lv_sub hl [1, 3, 4, 5] rfl) hf
                    · have hf := if_of_neg hf c96
                      refine lv_aload_n hx hb dX6_matches_178 rfl (lv_at hl 4 rfl) ?_
                      refine va_get (D := D) (ci := 7) (C := RX6) (T := TX6) (N := 22) hx hb hts iuX6 hown hK.1 (WW_one hR (f := 0) (i := 0) rfl) 0 rfl rfl 12 (by decide) (hts _ q_820) (fun _ h9 => h9) rfl dX6_matches_179 ?_
                      refine lv_iload_n hx hb dX6_matches_182 rfl (lv_at hl 5 rfl) ?_
                      refine va_iald hx hb hK.1 (WW_one hR (f := 11) (i := 0) rfl) 0 0 rfl rfl g3 dX6_matches_183 ?_
                      refine lv_goto (tgt := 194) hx hb dX6_matches_184 (by decide) ?_
                      refine lv_aload_n hx hb dX6_matches_194 rfl (lv_at hl 4 rfl) ?_
                      refine va_get (D := D) (ci := 7) (C := RX6) (T := TX6) (N := 22) hx hb hts iuX6 hown hK.1 (WW_one hR (f := 0) (i := 0) rfl) 0 rfl rfl 14 (by decide) (hts _ q_822) (fun _ h9 => h9) rfl dX6_matches_195 ?_
                      refine lv_iload_n hx hb dX6_matches_198 rfl (lv_at hl 5 rfl) ?_
                      refine va_zald hx hb hK.1 (WW_one hR (f := 13) (i := 0) rfl) 0 2 rfl rfl g3 dX6_matches_199 ?_
                      refine lv_if_eq (tgt := 213) hx hb dX6_matches_200 (by decide) (fun c100 => ?_) (fun c100 => ?_)
                      · have hf := if_of_pos hf c100
                        refine lv_aload_n hx hb dX6_matches_213 rfl (lv_at hl 4 rfl) ?_
                        refine va_get (D := D) (ci := 7) (C := RX6) (T := TX6) (N := 22) hx hb hts iuX6 hown hK.1 (WW_one hR (f := 0) (i := 0) rfl) 0 rfl rfl 12 (by decide) (hts _ q_820) (fun _ h9 => h9) rfl dX6_matches_214 ?_
                        refine lv_iload_n hx hb dX6_matches_217 rfl (lv_at hl 5 rfl) ?_
                        refine va_iald hx hb hK.1 (WW_one hR (f := 11) (i := 0) rfl) 0 0 rfl rfl g3 dX6_matches_218 ?_
                        refine lv_iload_n hx hb dX6_matches_219 rfl (lv_at hl 3 rfl) ?_
                        refine lv_iload hx hb dX6_matches_220 (lv_at hl 0 rfl) ?_
                        refine lv_aload_n hx hb dX6_matches_222 rfl (lv_at hl 4 rfl) ?_
                        refine va_get (D := D) (ci := 7) (C := RX6) (T := TX6) (N := 22) hx hb hts iuX6 hown hK.1 (WW_one hR (f := 0) (i := 0) rfl) 0 rfl rfl 15 (by decide) (hts _ q_823) (fun _ h9 => h9) rfl dX6_matches_223 ?_
                        refine lv_iload hx hb dX6_matches_226 (lv_at hl 2 rfl) ?_
                        refine va_iald hx hb hK.1 (WW_one hR (f := 14) (i := 0) rfl) 0 0 rfl rfl g89 dX6_matches_228 ?_
                        obtain ⟨q101, hcq101, hf⟩ := bd_of hf
                        refine kc_v (va_runV (As := [.int (gI σ 11 0 v1.toNatClampNeg), .int (gI σ 11 0 v1.toNatClampNeg), .int v2, .int x95, .int (gI σ 14 0 q60.toNatClampNeg)]) (rest := []) ⟨hx, hb, hml, hown, hts⟩ (mX6_trade l D dA ad σ _ (gI σ 11 0 v1.toNatClampNeg) (gI σ 11 0 v1.toNatClampNeg) v2 x95 (gI σ 14 0 q60.toNatClampNeg) q101 hcq101) (cwV 5 hts gX6_127 rfl rfl rfl (by decide +kernel) ⟨Nat.le_of_ble_eq_true rfl, Nat.le_of_ble_eq_true rfl⟩) (preV_of hR hK (f := 0) (i := 0) rfl rfl rfl _) rfl rfl hl.1 rfl (lv_room (Nat.le_of_ble_eq_true rfl)) dX6_matches_229 ⟨Nat.zero_le _, Nat.zero_le _⟩) hA hR hS (fun H locs hR hS => ?_)
                        refine lv_aload_n hx hb dX6_matches_232 rfl (lv_at hl 4 rfl) ?_
                        refine va_get (D := D) (ci := 7) (C := RX6) (T := TX6) (N := 22) hx hb hts iuX6 hown hK.1 (WW_one hR (f := 0) (i := 0) rfl) 0 rfl rfl 16 (by decide) (hts _ q_824) (fun _ h9 => h9) rfl dX6_matches_233 ?_
                        refine lv_iload hx hb dX6_matches_236 (lv_at hl 2 rfl) ?_
                        refine lv_dup2_11 hx hb dX6_matches_238 rfl rfl ?_
                        refine va_iald hx hb hK.1 (WW_one hR (f := 15) (i := 0) rfl) 0 0 rfl rfl g89 dX6_matches_239 ?_
                        refine lv_iload hx hb dX6_matches_240 (lv_at hl 0 rfl) ?_
                        refine lv_isub hx hb dX6_matches_242 ?_
                        refine ww_iast hx hb hK.1 hR hS 0 (f := 15) (j := 0) rfl rfl rfl g89 dX6_matches_243 (fun H locs hR hS => ?_)
                        have hR := HM_row15 0 (q60.toNatClampNeg) ((gI q101 15 0 q60.toNatClampNeg) - x95) hR
                        refine lv_aload_n hx hb dX6_matches_244 rfl (lv_at hl 4 rfl) ?_
                        refine va_get (D := D) (ci := 7) (C := RX6) (T := TX6) (N := 22) hx hb hts iuX6 hown hK.1 (WW_one hR (f := 0) (i := 0) rfl) 0 rfl rfl 16 (by decide) (hts _ q_824) (fun _ h9 => h9) rfl dX6_matches_245 ?_
                        refine lv_iload_n hx hb dX6_matches_248 rfl (lv_at hl 5 rfl) ?_
                        refine lv_dup2_11 hx hb dX6_matches_249 rfl rfl ?_
                        refine va_iald hx hb hK.1 (WW_one hR (f := 15) (i := 0) rfl) 0 0 rfl rfl g3 dX6_matches_250 ?_
                        refine lv_iload hx hb dX6_matches_251 (lv_at hl 0 rfl) ?_
                        refine lv_isub hx hb dX6_matches_253 ?_
                        refine ww_iast hx hb hK.1 hR hS 0 (f := 15) (j := 0) rfl rfl rfl g3 dX6_matches_254 (fun H locs hR hS => ?_)
                        have hR := HM_row15 0 (v1.toNatClampNeg) ((gI (pI q101 15 0 q60.toNatClampNeg ((gI q101 15 0 q60.toNatClampNeg) - x95)) 15 0 v1.toNatClampNeg) - x95) hR
                        refine lv_goto (tgt := 9) hx hb dX6_matches_255 (by decide) ?_
                        exact ih _ _ _ (pI (pI q101 15 0 q60.toNatClampNeg ((gI q101 15 0 q60.toNatClampNeg) - x95)) 15 0 v1.toNatClampNeg ((gI (pI q101 15 0 q60.toNatClampNeg ((gI q101 15 0 q60.toNatClampNeg) - x95)) 15 0 v1.toNatClampNeg) - x95)) 0 v2 v1 hR hS (lv_sub hl [1, 3, 4, 5] rfl) hf
                      · have hf := if_of_neg hf c100
                        refine lv_aload_n hx hb dX6_matches_203 rfl (lv_at hl 4 rfl) ?_
                        refine va_get (D := D) (ci := 7) (C := RX6) (T := TX6) (N := 22) hx hb hts iuX6 hown hK.1 (WW_one hR (f := 0) (i := 0) rfl) 0 rfl rfl 12 (by decide) (hts _ q_820) (fun _ h9 => h9) rfl dX6_matches_204 ?_
                        refine lv_iload hx hb dX6_matches_207 (lv_at hl 2 rfl) ?_
                        refine va_iald hx hb hK.1 (WW_one hR (f := 11) (i := 0) rfl) 0 0 rfl rfl g89 dX6_matches_209 ?_
                        refine lv_goto (tgt := 219) hx hb dX6_matches_210 (by decide) ?_
                        refine lv_iload_n hx hb dX6_matches_219 rfl (lv_at hl 3 rfl) ?_
                        refine lv_iload hx hb dX6_matches_220 (lv_at hl 0 rfl) ?_
                        refine lv_aload_n hx hb dX6_matches_222 rfl (lv_at hl 4 rfl) ?_
                        refine va_get (D := D) (ci := 7) (C := RX6) (T := TX6) (N := 22) hx hb hts iuX6 hown hK.1 (WW_one hR (f := 0) (i := 0) rfl) 0 rfl rfl 15 (by decide) (hts _ q_823) (fun _ h9 => h9) rfl dX6_matches_223 ?_
                        refine lv_iload hx hb dX6_matches_226 (lv_at hl 2 rfl) ?_
                        refine va_iald hx hb hK.1 (WW_one hR (f := 14) (i := 0) rfl) 0 0 rfl rfl g89 dX6_matches_228 ?_
                        obtain ⟨q102, hcq102, hf⟩ := bd_of hf
                        refine kc_v (va_runV (As := [.int (gI σ 11 0 v1.toNatClampNeg), .int (gI σ 11 0 q60.toNatClampNeg), .int v2, .int x95, .int (gI σ 14 0 q60.toNatClampNeg)]) (rest := []) ⟨hx, hb, hml, hown, hts⟩ (mX6_trade l D dA ad σ _ (gI σ 11 0 v1.toNatClampNeg) (gI σ 11 0 q60.toNatClampNeg) v2 x95 (gI σ 14 0 q60.toNatClampNeg) q102 hcq102) (cwV 5 hts gX6_127 rfl rfl rfl (by decide +kernel) ⟨Nat.le_of_ble_eq_true rfl, Nat.le_of_ble_eq_true rfl⟩) (preV_of hR hK (f := 0) (i := 0) rfl rfl rfl _) rfl rfl hl.1 rfl (lv_room (Nat.le_of_ble_eq_true rfl)) dX6_matches_229 ⟨Nat.zero_le _, Nat.zero_le _⟩) hA hR hS (fun H locs hR hS => ?_)
                        refine lv_aload_n hx hb dX6_matches_232 rfl (lv_at hl 4 rfl) ?_
                        refine va_get (D := D) (ci := 7) (C := RX6) (T := TX6) (N := 22) hx hb hts iuX6 hown hK.1 (WW_one hR (f := 0) (i := 0) rfl) 0 rfl rfl 16 (by decide) (hts _ q_824) (fun _ h9 => h9) rfl dX6_matches_233 ?_
                        refine lv_iload hx hb dX6_matches_236 (lv_at hl 2 rfl) ?_
                        refine lv_dup2_11 hx hb dX6_matches_238 rfl rfl ?_
                        refine va_iald hx hb hK.1 (WW_one hR (f := 15) (i := 0) rfl) 0 0 rfl rfl g89 dX6_matches_239 ?_
                        refine lv_iload hx hb dX6_matches_240 (lv_at hl 0 rfl) ?_
                        refine lv_isub hx hb dX6_matches_242 ?_
                        refine ww_iast hx hb hK.1 hR hS 0 (f := 15) (j := 0) rfl rfl rfl g89 dX6_matches_243 (fun H locs hR hS => ?_)
                        have hR := HM_row15 0 (q60.toNatClampNeg) ((gI q102 15 0 q60.toNatClampNeg) - x95) hR
                        refine lv_aload_n hx hb dX6_matches_244 rfl (lv_at hl 4 rfl) ?_
                        refine va_get (D := D) (ci := 7) (C := RX6) (T := TX6) (N := 22) hx hb hts iuX6 hown hK.1 (WW_one hR (f := 0) (i := 0) rfl) 0 rfl rfl 16 (by decide) (hts _ q_824) (fun _ h9 => h9) rfl dX6_matches_245 ?_
                        refine lv_iload_n hx hb dX6_matches_248 rfl (lv_at hl 5 rfl) ?_
                        refine lv_dup2_11 hx hb dX6_matches_249 rfl rfl ?_
                        refine va_iald hx hb hK.1 (WW_one hR (f := 15) (i := 0) rfl) 0 0 rfl rfl g3 dX6_matches_250 ?_
                        refine lv_iload hx hb dX6_matches_251 (lv_at hl 0 rfl) ?_
                        refine lv_isub hx hb dX6_matches_253 ?_
                        refine ww_iast hx hb hK.1 hR hS 0 (f := 15) (j := 0) rfl rfl rfl g3 dX6_matches_254 (fun H locs hR hS => ?_)
                        have hR := HM_row15 0 (v1.toNatClampNeg) ((gI (pI q102 15 0 q60.toNatClampNeg ((gI q102 15 0 q60.toNatClampNeg) - x95)) 15 0 v1.toNatClampNeg) - x95) hR
                        refine lv_goto (tgt := 9) hx hb dX6_matches_255 (by decide) ?_
                        exact ih _ _ _ (pI (pI q102 15 0 q60.toNatClampNeg ((gI q102 15 0 q60.toNatClampNeg) - x95)) 15 0 v1.toNatClampNeg ((gI (pI q102 15 0 q60.toNatClampNeg ((gI q102 15 0 q60.toNatClampNeg) - x95)) 15 0 v1.toNatClampNeg) - x95)) 0 v2 v1 hR hS (lv_sub hl [1, 3, 4, 5] rfl) hf
                  · have hf := if_of_neg hf c94
                    refine lv_aload_n hx hb dX6_matches_150 rfl (lv_at hl 3 rfl) ?_
                    refine va_get (D := D) (ci := 7) (C := RX6) (T := TX6) (N := 22) hx hb hts iuX6 hown hK.1 (WW_one hR (f := 0) (i := 0) rfl) 0 rfl rfl 16 (by decide) (hts _ q_824) (fun _ h9 => h9) rfl dX6_matches_151 ?_
                    refine lv_iload hx hb dX6_matches_154 (lv_at hl 1 rfl) ?_
                    refine va_iald hx hb hK.1 (WW_one hR (f := 15) (i := 0) rfl) 0 0 rfl rfl g89 dX6_matches_156 ?_
                    refine lv_goto (tgt := 166) hx hb dX6_matches_157 (by decide) ?_
                    refine lv_topi (fun x103 hx103 => ?_)
                    have hf := kst_eq hx103 hf
                    refine lv_istore (lv' := [(5, .int x103), (3, .int 0), (4, .int q60), (2, .int v2), (0, .ref (ad 0 0)), (1, .int v1)]) hx hb dX6_matches_166 hl (by decide) rfl (fun ls hl => ?_)
                    refine lv_aload_n hx hb dX6_matches_168 rfl (lv_at hl 4 rfl) ?_
                    refine lv_aload_n hx hb dX6_matches_169 rfl (lv_at hl 4 rfl) ?_
                    refine va_get (D := D) (ci := 7) (C := RX6) (T := TX6) (N := 22) hx hb hts iuX6 hown hK.1 (WW_one hR (f := 0) (i := 0) rfl) 0 rfl rfl 14 (by decide) (hts _ q_822) (fun _ h9 => h9) rfl dX6_matches_170 ?_
                    refine lv_iload_n hx hb dX6_matches_173 rfl (lv_at hl 5 rfl) ?_
                    refine va_zald hx hb hK.1 (WW_one hR (f := 13) (i := 0) rfl) 0 2 rfl rfl g3 dX6_matches_174 ?_
                    refine lv_if_eq (tgt := 187) hx hb dX6_matches_175 (by decide) (fun c104 => ?_) (fun c104 => ?_)
                    · have hf := if_of_pos hf c104
                      refine lv_aload_n hx hb dX6_matches_187 rfl (lv_at hl 4 rfl) ?_
                      refine va_get (D := D) (ci := 7) (C := RX6) (T := TX6) (N := 22) hx hb hts iuX6 hown hK.1 (WW_one hR (f := 0) (i := 0) rfl) 0 rfl rfl 12 (by decide) (hts _ q_820) (fun _ h9 => h9) rfl dX6_matches_188 ?_
                      refine lv_iload hx hb dX6_matches_191 (lv_at hl 2 rfl) ?_
                      refine va_iald hx hb hK.1 (WW_one hR (f := 11) (i := 0) rfl) 0 0 rfl rfl g89 dX6_matches_193 ?_
                      refine lv_aload_n hx hb dX6_matches_194 rfl (lv_at hl 4 rfl) ?_
                      refine va_get (D := D) (ci := 7) (C := RX6) (T := TX6) (N := 22) hx hb hts iuX6 hown hK.1 (WW_one hR (f := 0) (i := 0) rfl) 0 rfl rfl 14 (by decide) (hts _ q_822) (fun _ h9 => h9) rfl dX6_matches_195 ?_
                      refine lv_iload_n hx hb dX6_matches_198 rfl (lv_at hl 5 rfl) ?_
                      refine va_zald hx hb hK.1 (WW_one hR (f := 13) (i := 0) rfl) 0 2 rfl rfl g3 dX6_matches_199 ?_
                      refine lv_if_eq (tgt := 213) hx hb dX6_matches_200 (by decide) (fun c105 => ?_) (fun c105 => ?_)
                      · have hf := if_of_pos hf c105
                        refine lv_aload_n hx hb dX6_matches_213 rfl (lv_at hl 4 rfl) ?_
                        refine va_get (D := D) (ci := 7) (C := RX6) (T := TX6) (N := 22) hx hb hts iuX6 hown hK.1 (WW_one hR (f := 0) (i := 0) rfl) 0 rfl rfl 12 (by decide) (hts _ q_820) (fun _ h9 => h9) rfl dX6_matches_214 ?_
                        refine lv_iload_n hx hb dX6_matches_217 rfl (lv_at hl 5 rfl) ?_
                        refine va_iald hx hb hK.1 (WW_one hR (f := 11) (i := 0) rfl) 0 0 rfl rfl g3 dX6_matches_218 ?_
                        refine lv_iload_n hx hb dX6_matches_219 rfl (lv_at hl 3 rfl) ?_
                        refine lv_iload hx hb dX6_matches_220 (lv_at hl 0 rfl) ?_
                        refine lv_aload_n hx hb dX6_matches_222 rfl (lv_at hl 4 rfl) ?_
                        refine va_get (D := D) (ci := 7) (C := RX6) (T := TX6) (N := 22) hx hb hts iuX6 hown hK.1 (WW_one hR (f := 0) (i := 0) rfl) 0 rfl rfl 15 (by decide) (hts _ q_823) (fun _ h9 => h9) rfl dX6_matches_223 ?_
                        refine lv_iload hx hb dX6_matches_226 (lv_at hl 2 rfl) ?_
                        refine va_iald hx hb hK.1 (WW_one hR (f := 14) (i := 0) rfl) 0 0 rfl rfl g89 dX6_matches_228 ?_
                        obtain ⟨q106, hcq106, hf⟩ := bd_of hf
                        refine kc_v (va_runV (As := [.int (gI σ 11 0 q60.toNatClampNeg), .int (gI σ 11 0 v1.toNatClampNeg), .int v2, .int x103, .int (gI σ 14 0 q60.toNatClampNeg)]) (rest := []) ⟨hx, hb, hml, hown, hts⟩ (mX6_trade l D dA ad σ _ (gI σ 11 0 q60.toNatClampNeg) (gI σ 11 0 v1.toNatClampNeg) v2 x103 (gI σ 14 0 q60.toNatClampNeg) q106 hcq106) (cwV 5 hts gX6_127 rfl rfl rfl (by decide +kernel) ⟨Nat.le_of_ble_eq_true rfl, Nat.le_of_ble_eq_true rfl⟩) (preV_of hR hK (f := 0) (i := 0) rfl rfl rfl _) rfl rfl hl.1 rfl (lv_room (Nat.le_of_ble_eq_true rfl)) dX6_matches_229 ⟨Nat.zero_le _, Nat.zero_le _⟩) hA hR hS (fun H locs hR hS => ?_)
                        refine lv_aload_n hx hb dX6_matches_232 rfl (lv_at hl 4 rfl) ?_
                        refine va_get (D := D) (ci := 7) (C := RX6) (T := TX6) (N := 22) hx hb hts iuX6 hown hK.1 (WW_one hR (f := 0) (i := 0) rfl) 0 rfl rfl 16 (by decide) (hts _ q_824) (fun _ h9 => h9) rfl dX6_matches_233 ?_
                        refine lv_iload hx hb dX6_matches_236 (lv_at hl 2 rfl) ?_
                        refine lv_dup2_11 hx hb dX6_matches_238 rfl rfl ?_
                        refine va_iald hx hb hK.1 (WW_one hR (f := 15) (i := 0) rfl) 0 0 rfl rfl g89 dX6_matches_239 ?_
                        refine lv_iload hx hb dX6_matches_240 (lv_at hl 0 rfl) ?_
                        refine lv_isub hx hb dX6_matches_242 ?_
                        refine ww_iast hx hb hK.1 hR hS 0 (f := 15) (j := 0) rfl rfl rfl g89 dX6_matches_243 (fun H locs hR hS => ?_)
                        have hR := HM_row15 0 (q60.toNatClampNeg) ((gI q106 15 0 q60.toNatClampNeg) - x103) hR
                        refine lv_aload_n hx hb dX6_matches_244 rfl (lv_at hl 4 rfl) ?_
                        refine va_get (D := D) (ci := 7) (C := RX6) (T := TX6) (N := 22) hx hb hts iuX6 hown hK.1 (WW_one hR (f := 0) (i := 0) rfl) 0 rfl rfl 16 (by decide) (hts _ q_824) (fun _ h9 => h9) rfl dX6_matches_245 ?_
                        refine lv_iload_n hx hb dX6_matches_248 rfl (lv_at hl 5 rfl) ?_
                        refine lv_dup2_11 hx hb dX6_matches_249 rfl rfl ?_
                        refine va_iald hx hb hK.1 (WW_one hR (f := 15) (i := 0) rfl) 0 0 rfl rfl g3 dX6_matches_250 ?_
                        refine lv_iload hx hb dX6_matches_251 (lv_at hl 0 rfl) ?_
                        refine lv_isub hx hb dX6_matches_253 ?_
                        refine ww_iast hx hb hK.1 hR hS 0 (f := 15) (j := 0) rfl rfl rfl g3 dX6_matches_254 (fun H locs hR hS => ?_)
                        have hR := HM_row15 0 (v1.toNatClampNeg) ((gI (pI q106 15 0 q60.toNatClampNeg ((gI q106 15 0 q60.toNatClampNeg) - x103)) 15 0 v1.toNatClampNeg) - x103) hR
                        refine lv_goto (tgt := 9) hx hb dX6_matches_255 (by decide) ?_
                        exact ih _ _ _ (pI (pI q106 15 0 q60.toNatClampNeg ((gI q106 15 0 q60.toNatClampNeg) - x103)) 15 0 v1.toNatClampNeg ((gI (pI q106 15 0 q60.toNatClampNeg ((gI q106 15 0 q60.toNatClampNeg) - x103)) 15 0 v1.toNatClampNeg) - x103)) 0 v2 v1 hR hS (lv_sub hl [1, 3, 4, 5] rfl) hf
                      · have hf := if_of_neg hf c105
                        refine lv_aload_n hx hb dX6_matches_203 rfl (lv_at hl 4 rfl) ?_
                        refine va_get (D := D) (ci := 7) (C := RX6) (T := TX6) (N := 22) hx hb hts iuX6 hown hK.1 (WW_one hR (f := 0) (i := 0) rfl) 0 rfl rfl 12 (by decide) (hts _ q_820) (fun _ h9 => h9) rfl dX6_matches_204 ?_
                        refine lv_iload hx hb dX6_matches_207 (lv_at hl 2 rfl) ?_
                        refine va_iald hx hb hK.1 (WW_one hR (f := 11) (i := 0) rfl) 0 0 rfl rfl g89 dX6_matches_209 ?_
                        refine lv_goto (tgt := 219) hx hb dX6_matches_210 (by decide) ?_
                        refine lv_iload_n hx hb dX6_matches_219 rfl (lv_at hl 3 rfl) ?_
                        refine lv_iload hx hb dX6_matches_220 (lv_at hl 0 rfl) ?_
                        refine lv_aload_n hx hb dX6_matches_222 rfl (lv_at hl 4 rfl) ?_
                        refine va_get (D := D) (ci := 7) (C := RX6) (T := TX6) (N := 22) hx hb hts iuX6 hown hK.1 (WW_one hR (f := 0) (i := 0) rfl) 0 rfl rfl 15 (by decide) (hts _ q_823) (fun _ h9 => h9) rfl dX6_matches_223 ?_
                        refine lv_iload hx hb dX6_matches_226 (lv_at hl 2 rfl) ?_
                        refine va_iald hx hb hK.1 (WW_one hR (f := 14) (i := 0) rfl) 0 0 rfl rfl g89 dX6_matches_228 ?_
                        obtain ⟨q107, hcq107, hf⟩ := bd_of hf
                        refine kc_v (va_runV (As := [.int (gI σ 11 0 q60.toNatClampNeg), .int (gI σ 11 0 q60.toNatClampNeg), .int v2, .int x103, .int (gI σ 14 0 q60.toNatClampNeg)]) (rest := []) ⟨hx, hb, hml, hown, hts⟩ (mX6_trade l D dA ad σ _ (gI σ 11 0 q60.toNatClampNeg) (gI σ 11 0 q60.toNatClampNeg) v2 x103 (gI σ 14 0 q60.toNatClampNeg) q107 hcq107) (cwV 5 hts gX6_127 rfl rfl rfl (by decide +kernel) ⟨Nat.le_of_ble_eq_true rfl, Nat.le_of_ble_eq_true rfl⟩) (preV_of hR hK (f := 0) (i := 0) rfl rfl rfl _) rfl rfl hl.1 rfl (lv_room (Nat.le_of_ble_eq_true rfl)) dX6_matches_229 ⟨Nat.zero_le _, Nat.zero_le _⟩) hA hR hS (fun H locs hR hS => ?_)
                        refine lv_aload_n hx hb dX6_matches_232 rfl (lv_at hl 4 rfl) ?_
                        refine va_get (D := D) (ci := 7) (C := RX6) (T := TX6) (N := 22) hx hb hts iuX6 hown hK.1 (WW_one hR (f := 0) (i := 0) rfl) 0 rfl rfl 16 (by decide) (hts _ q_824) (fun _ h9 => h9) rfl dX6_matches_233 ?_
                        refine lv_iload hx hb dX6_matches_236 (lv_at hl 2 rfl) ?_
                        refine lv_dup2_11 hx hb dX6_matches_238 rfl rfl ?_
                        refine va_iald hx hb hK.1 (WW_one hR (f := 15) (i := 0) rfl) 0 0 rfl rfl g89 dX6_matches_239 ?_
                        refine lv_iload hx hb dX6_matches_240 (lv_at hl 0 rfl) ?_
                        refine lv_isub hx hb dX6_matches_242 ?_
                        refine ww_iast hx hb hK.1 hR hS 0 (f := 15) (j := 0) rfl rfl rfl g89 dX6_matches_243 (fun H locs hR hS => ?_)
                        have hR := HM_row15 0 (q60.toNatClampNeg) ((gI q107 15 0 q60.toNatClampNeg) - x103) hR
                        refine lv_aload_n hx hb dX6_matches_244 rfl (lv_at hl 4 rfl) ?_
                        refine va_get (D := D) (ci := 7) (C := RX6) (T := TX6) (N := 22) hx hb hts iuX6 hown hK.1 (WW_one hR (f := 0) (i := 0) rfl) 0 rfl rfl 16 (by decide) (hts _ q_824) (fun _ h9 => h9) rfl dX6_matches_245 ?_
                        refine lv_iload_n hx hb dX6_matches_248 rfl (lv_at hl 5 rfl) ?_
                        refine lv_dup2_11 hx hb dX6_matches_249 rfl rfl ?_
                        refine va_iald hx hb hK.1 (WW_one hR (f := 15) (i := 0) rfl) 0 0 rfl rfl g3 dX6_matches_250 ?_
                        refine lv_iload hx hb dX6_matches_251 (lv_at hl 0 rfl) ?_
                        refine lv_isub hx hb dX6_matches_253 ?_
                        refine ww_iast hx hb hK.1 hR hS 0 (f := 15) (j := 0) rfl rfl rfl g3 dX6_matches_254 (fun H locs hR hS => ?_)
                        have hR := HM_row15 0 (v1.toNatClampNeg) ((gI (pI q107 15 0 q60.toNatClampNeg ((gI q107 15 0 q60.toNatClampNeg) - x103)) 15 0 v1.toNatClampNeg) - x103) hR
                        refine lv_goto (tgt := 9) hx hb dX6_matches_255 (by decide) ?_
                        exact ih _ _ _ (pI (pI q107 15 0 q60.toNatClampNeg ((gI q107 15 0 q60.toNatClampNeg) - x103)) 15 0 v1.toNatClampNeg ((gI (pI q107 15 0 q60.toNatClampNeg ((gI q107 15 0 q60.toNatClampNeg) - x103)) 15 0 v1.toNatClampNeg) - x103)) 0 v2 v1 hR hS (lv_sub hl [1, 3, 4, 5] rfl) hf
                    · have hf := if_of_neg hf c104
                      refine lv_aload_n hx hb dX6_matches_178 rfl (lv_at hl 4 rfl) ?_
                      refine va_get (D := D) (ci := 7) (C := RX6) (T := TX6) (N := 22) hx hb hts iuX6 hown hK.1 (WW_one hR (f := 0) (i := 0) rfl) 0 rfl rfl 12 (by decide) (hts _ q_820) (fun _ h9 => h9) rfl dX6_matches_179 ?_
                      refine lv_iload_n hx hb dX6_matches_182 rfl (lv_at hl 5 rfl) ?_
                      refine va_iald hx hb hK.1 (WW_one hR (f := 11) (i := 0) rfl) 0 0 rfl rfl g3 dX6_matches_183 ?_
                      refine lv_goto (tgt := 194) hx hb dX6_matches_184 (by decide) ?_
                      refine lv_aload_n hx hb dX6_matches_194 rfl (lv_at hl 4 rfl) ?_
                      refine va_get (D := D) (ci := 7) (C := RX6) (T := TX6) (N := 22) hx hb hts iuX6 hown hK.1 (WW_one hR (f := 0) (i := 0) rfl) 0 rfl rfl 14 (by decide) (hts _ q_822) (fun _ h9 => h9) rfl dX6_matches_195 ?_
                      refine lv_iload_n hx hb dX6_matches_198 rfl (lv_at hl 5 rfl) ?_
                      refine va_zald hx hb hK.1 (WW_one hR (f := 13) (i := 0) rfl) 0 2 rfl rfl g3 dX6_matches_199 ?_
                      refine lv_if_eq (tgt := 213) hx hb dX6_matches_200 (by decide) (fun c108 => ?_) (fun c108 => ?_)
                      · have hf := if_of_pos hf c108
                        refine lv_aload_n hx hb dX6_matches_213 rfl (lv_at hl 4 rfl) ?_
                        refine va_get (D := D) (ci := 7) (C := RX6) (T := TX6) (N := 22) hx hb hts iuX6 hown hK.1 (WW_one hR (f := 0) (i := 0) rfl) 0 rfl rfl 12 (by decide) (hts _ q_820) (fun _ h9 => h9) rfl dX6_matches_214 ?_
                        refine lv_iload_n hx hb dX6_matches_217 rfl (lv_at hl 5 rfl) ?_
                        refine va_iald hx hb hK.1 (WW_one hR (f := 11) (i := 0) rfl) 0 0 rfl rfl g3 dX6_matches_218 ?_
                        refine lv_iload_n hx hb dX6_matches_219 rfl (lv_at hl 3 rfl) ?_
                        refine lv_iload hx hb dX6_matches_220 (lv_at hl 0 rfl) ?_
                        refine lv_aload_n hx hb dX6_matches_222 rfl (lv_at hl 4 rfl) ?_
                        refine va_get (D := D) (ci := 7) (C := RX6) (T := TX6) (N := 22) hx hb hts iuX6 hown hK.1 (WW_one hR (f := 0) (i := 0) rfl) 0 rfl rfl 15 (by decide) (hts _ q_823) (fun _ h9 => h9) rfl dX6_matches_223 ?_
                        refine lv_iload hx hb dX6_matches_226 (lv_at hl 2 rfl) ?_
                        refine va_iald hx hb hK.1 (WW_one hR (f := 14) (i := 0) rfl) 0 0 rfl rfl g89 dX6_matches_228 ?_
                        obtain ⟨q109, hcq109, hf⟩ := bd_of hf
                        refine kc_v (va_runV (As := [.int (gI σ 11 0 v1.toNatClampNeg), .int (gI σ 11 0 v1.toNatClampNeg), .int v2, .int x103, .int (gI σ 14 0 q60.toNatClampNeg)]) (rest := []) ⟨hx, hb, hml, hown, hts⟩ (mX6_trade l D dA ad σ _ (gI σ 11 0 v1.toNatClampNeg) (gI σ 11 0 v1.toNatClampNeg) v2 x103 (gI σ 14 0 q60.toNatClampNeg) q109 hcq109) (cwV 5 hts gX6_127 rfl rfl rfl (by decide +kernel) ⟨Nat.le_of_ble_eq_true rfl, Nat.le_of_ble_eq_true rfl⟩) (preV_of hR hK (f := 0) (i := 0) rfl rfl rfl _) rfl rfl hl.1 rfl (lv_room (Nat.le_of_ble_eq_true rfl)) dX6_matches_229 ⟨Nat.zero_le _, Nat.zero_le _⟩) hA hR hS (fun H locs hR hS => ?_)
                        refine lv_aload_n hx hb dX6_matches_232 rfl (lv_at hl 4 rfl) ?_
                        refine va_get (D := D) (ci := 7) (C := RX6) (T := TX6) (N := 22) hx hb hts iuX6 hown hK.1 (WW_one hR (f := 0) (i := 0) rfl) 0 rfl rfl 16 (by decide) (hts _ q_824) (fun _ h9 => h9) rfl dX6_matches_233 ?_
                        refine lv_iload hx hb dX6_matches_236 (lv_at hl 2 rfl) ?_
                        refine lv_dup2_11 hx hb dX6_matches_238 rfl rfl ?_
                        refine va_iald hx hb hK.1 (WW_one hR (f := 15) (i := 0) rfl) 0 0 rfl rfl g89 dX6_matches_239 ?_
                        refine lv_iload hx hb dX6_matches_240 (lv_at hl 0 rfl) ?_
                        refine lv_isub hx hb dX6_matches_242 ?_
                        refine ww_iast hx hb hK.1 hR hS 0 (f := 15) (j := 0) rfl rfl rfl g89 dX6_matches_243 (fun H locs hR hS => ?_)
                        have hR := HM_row15 0 (q60.toNatClampNeg) ((gI q109 15 0 q60.toNatClampNeg) - x103) hR
                        refine lv_aload_n hx hb dX6_matches_244 rfl (lv_at hl 4 rfl) ?_
                        refine va_get (D := D) (ci := 7) (C := RX6) (T := TX6) (N := 22) hx hb hts iuX6 hown hK.1 (WW_one hR (f := 0) (i := 0) rfl) 0 rfl rfl 16 (by decide) (hts _ q_824) (fun _ h9 => h9) rfl dX6_matches_245 ?_
                        refine lv_iload_n hx hb dX6_matches_248 rfl (lv_at hl 5 rfl) ?_
                        refine lv_dup2_11 hx hb dX6_matches_249 rfl rfl ?_
                        refine va_iald hx hb hK.1 (WW_one hR (f := 15) (i := 0) rfl) 0 0 rfl rfl g3 dX6_matches_250 ?_
                        refine lv_iload hx hb dX6_matches_251 (lv_at hl 0 rfl) ?_
                        refine lv_isub hx hb dX6_matches_253 ?_
                        refine ww_iast hx hb hK.1 hR hS 0 (f := 15) (j := 0) rfl rfl rfl g3 dX6_matches_254 (fun H locs hR hS => ?_)
                        have hR := HM_row15 0 (v1.toNatClampNeg) ((gI (pI q109 15 0 q60.toNatClampNeg ((gI q109 15 0 q60.toNatClampNeg) - x103)) 15 0 v1.toNatClampNeg) - x103) hR
                        refine lv_goto (tgt := 9) hx hb dX6_matches_255 (by decide) ?_
                        exact ih _ _ _ (pI (pI q109 15 0 q60.toNatClampNeg ((gI q109 15 0 q60.toNatClampNeg) - x103)) 15 0 v1.toNatClampNeg ((gI (pI q109 15 0 q60.toNatClampNeg ((gI q109 15 0 q60.toNatClampNeg) - x103)) 15 0 v1.toNatClampNeg) - x103)) 0 v2 v1 hR hS (lv_sub hl [1, 3, 4, 5] rfl) hf
                      · have hf := if_of_neg hf c108
                        refine lv_aload_n hx hb dX6_matches_203 rfl (lv_at hl 4 rfl) ?_
                        refine va_get (D := D) (ci := 7) (C := RX6) (T := TX6) (N := 22) hx hb hts iuX6 hown hK.1 (WW_one hR (f := 0) (i := 0) rfl) 0 rfl rfl 12 (by decide) (hts _ q_820) (fun _ h9 => h9) rfl dX6_matches_204 ?_
                        refine lv_iload hx hb dX6_matches_207 (lv_at hl 2 rfl) ?_
                        refine va_iald hx hb hK.1 (WW_one hR (f := 11) (i := 0) rfl) 0 0 rfl rfl g89 dX6_matches_209 ?_
                        refine lv_goto (tgt := 219) hx hb dX6_matches_210 (by decide) ?_
                        refine lv_iload_n hx hb dX6_matches_219 rfl (lv_at hl 3 rfl) ?_
                        refine lv_iload hx hb dX6_matches_220 (lv_at hl 0 rfl) ?_
                        refine lv_aload_n hx hb dX6_matches_222 rfl (lv_at hl 4 rfl) ?_
                        refine va_get (D := D) (ci := 7) (C := RX6) (T := TX6) (N := 22) hx hb hts iuX6 hown hK.1 (WW_one hR (f := 0) (i := 0) rfl) 0 rfl rfl 15 (by decide) (hts _ q_823) (fun _ h9 => h9) rfl dX6_matches_223 ?_
                        refine lv_iload hx hb dX6_matches_226 (lv_at hl 2 rfl) ?_
                        refine va_iald hx hb hK.1 (WW_one hR (f := 14) (i := 0) rfl) 0 0 rfl rfl g89 dX6_matches_228 ?_
                        obtain ⟨q110, hcq110, hf⟩ := bd_of hf
                        refine kc_v (va_runV (As := [.int (gI σ 11 0 v1.toNatClampNeg), .int (gI σ 11 0 q60.toNatClampNeg), .int v2, .int x103, .int (gI σ 14 0 q60.toNatClampNeg)]) (rest := []) ⟨hx, hb, hml, hown, hts⟩ (mX6_trade l D dA ad σ _ (gI σ 11 0 v1.toNatClampNeg) (gI σ 11 0 q60.toNatClampNeg) v2 x103 (gI σ 14 0 q60.toNatClampNeg) q110 hcq110) (cwV 5 hts gX6_127 rfl rfl rfl (by decide +kernel) ⟨Nat.le_of_ble_eq_true rfl, Nat.le_of_ble_eq_true rfl⟩) (preV_of hR hK (f := 0) (i := 0) rfl rfl rfl _) rfl rfl hl.1 rfl (lv_room (Nat.le_of_ble_eq_true rfl)) dX6_matches_229 ⟨Nat.zero_le _, Nat.zero_le _⟩) hA hR hS (fun H locs hR hS => ?_)
                        refine lv_aload_n hx hb dX6_matches_232 rfl (lv_at hl 4 rfl) ?_
                        refine va_get (D := D) (ci := 7) (C := RX6) (T := TX6) (N := 22) hx hb hts iuX6 hown hK.1 (WW_one hR (f := 0) (i := 0) rfl) 0 rfl rfl 16 (by decide) (hts _ q_824) (fun _ h9 => h9) rfl dX6_matches_233 ?_
                        refine lv_iload hx hb dX6_matches_236 (lv_at hl 2 rfl) ?_
                        refine lv_dup2_11 hx hb dX6_matches_238 rfl rfl ?_
                        refine va_iald hx hb hK.1 (WW_one hR (f := 15) (i := 0) rfl) 0 0 rfl rfl g89 dX6_matches_239 ?_
                        refine lv_iload hx hb dX6_matches_240 (lv_at hl 0 rfl) ?_
                        refine lv_isub hx hb dX6_matches_242 ?_
                        refine ww_iast hx hb hK.1 hR hS 0 (f := 15) (j := 0) rfl rfl rfl g89 dX6_matches_243 (fun H locs hR hS => ?_)
                        have hR := HM_row15 0 (q60.toNatClampNeg) ((gI q110 15 0 q60.toNatClampNeg) - x103) hR
                        refine lv_aload_n hx hb dX6_matches_244 rfl (lv_at hl 4 rfl) ?_
                        refine va_get (D := D) (ci := 7) (C := RX6) (T := TX6) (N := 22) hx hb hts iuX6 hown hK.1 (WW_one hR (f := 0) (i := 0) rfl) 0 rfl rfl 16 (by decide) (hts _ q_824) (fun _ h9 => h9) rfl dX6_matches_245 ?_
                        refine lv_iload_n hx hb dX6_matches_248 rfl (lv_at hl 5 rfl) ?_
                        refine lv_dup2_11 hx hb dX6_matches_249 rfl rfl ?_
                        refine va_iald hx hb hK.1 (WW_one hR (f := 15) (i := 0) rfl) 0 0 rfl rfl g3 dX6_matches_250 ?_
                        refine lv_iload hx hb dX6_matches_251 (lv_at hl 0 rfl) ?_
                        refine lv_isub hx hb dX6_matches_253 ?_
                        refine ww_iast hx hb hK.1 hR hS 0 (f := 15) (j := 0) rfl rfl rfl g3 dX6_matches_254 (fun H locs hR hS => ?_)
                        have hR := HM_row15 0 (v1.toNatClampNeg) ((gI (pI q110 15 0 q60.toNatClampNeg ((gI q110 15 0 q60.toNatClampNeg) - x103)) 15 0 v1.toNatClampNeg) - x103) hR
                        refine lv_goto (tgt := 9) hx hb dX6_matches_255 (by decide) ?_
                        exact ih _ _ _ (pI (pI q110 15 0 q60.toNatClampNeg ((gI q110 15 0 q60.toNatClampNeg) - x103)) 15 0 v1.toNatClampNeg ((gI (pI q110 15 0 q60.toNatClampNeg ((gI q110 15 0 q60.toNatClampNeg) - x103)) 15 0 v1.toNatClampNeg) - x103)) 0 v2 v1 hR hS (lv_sub hl [1, 3, 4, 5] rfl) hf
                · have hf := if_of_neg hf (fun q => q c92)
                  refine lv_aload_n hx hb dX6_matches_119 rfl (lv_at hl 3 rfl) ?_
                  refine va_get (D := D) (ci := 7) (C := RX6) (T := TX6) (N := 22) hx hb hts iuX6 hown hK.1 (WW_one hR (f := 0) (i := 0) rfl) 0 rfl rfl 16 (by decide) (hts _ q_824) (fun _ h9 => h9) rfl dX6_matches_120 ?_
                  refine lv_iload hx hb dX6_matches_123 (lv_at hl 1 rfl) ?_
                  refine lv_iconst (v := 0) hx hb dX6_matches_125 (by decide) ?_
                  refine ww_iast hx hb hK.1 hR hS 0 (f := 15) (j := 0) rfl rfl rfl g89 dX6_matches_126 (fun H locs hR hS => ?_)
                  have hR := HM_row15 0 (q60.toNatClampNeg) 0 hR
                  refine lv_goto (tgt := 255) hx hb dX6_matches_127 (by decide) ?_
                  refine lv_goto (tgt := 9) hx hb dX6_matches_255 (by decide) ?_
                  exact ih _ _ _ (pI σ 15 0 q60.toNatClampNeg 0) 0 v2 v1 hR hS (lv_sub hl [0, 2, 3, 4] rfl) hf
              · have hf := if_of_neg hf c90
                refine lv_goto (tgt := 93) hx hb dX6_matches_74 (by decide) ?_
                refine lv_iconst (v := 1) hx hb dX6_matches_93 (by decide) ?_
                refine lv_goto (tgt := 98) hx hb dX6_matches_94 (by decide) ?_
                refine lv_istore_n (lv' := [(3, .int 1), (4, .int q60), (2, .int v2), (0, .ref (ad 0 0)), (1, .int v1)]) hx hb dX6_matches_98 rfl hl (by decide) rfl (fun ls hl => ?_)
                refine lv_iload_n hx hb dX6_matches_99 rfl (lv_at hl 0 rfl) ?_
                refine lv_if_ne (tgt := 130) hx hb dX6_matches_100 (by decide) (fun c111 => ?_) (fun c111 => absurd c111 (by decide))
                refine lv_iload_n hx hb dX6_matches_130 rfl (lv_at hl 0 rfl) ?_
                refine lv_if_ne (tgt := 255) hx hb dX6_matches_131 (by decide) (fun c112 => ?_) (fun c112 => absurd c112 (by decide))
                refine lv_goto (tgt := 9) hx hb dX6_matches_255 (by decide) ?_
                exact ih _ _ _ σ 1 v2 v1 hR hS (lv_sub hl [0, 2, 3, 4] rfl) hf
def fX6_matches (σ : St) (a1 : Int32) : Option (St) := gd (vin a1 100) (kst (gI σ 12 0 a1.toNatClampNeg) (fun x2 => fX6_matches_L9 1000 σ 0 x2 a1))
set_option maxHeartbeats 4000000 in
set_option maxRecDepth 100000 in
theorem mX6_matches (l : Launch) (D : va_G) (dA : Nat → ClassId) (ad : Nat → Nat → Nat) (σ : St) (sz : Nat) (a1 : Int32) (σ' : St) (hf : fX6_matches σ a1 = some σ') : Met l yX6_matches (WSy yX6_matches cX6_matches 6 none) ({ frames := 1, cells := 0, slots := 0, locals := 25 } : Room) (va_Pc [.ref (ad 0 0), .int a1] (fun U => U.heap.size = sz ∧ HM D dA (fun _ => True) ad σ U.heap ∧ KS D dA U)) (va_Qv (fun (_ : Unit) => True) (fun _ t => HM D dA (WA ad (cvM σ) sz) ad σ' t.heap) (WA ad (cvM σ) sz)) 0 0 (WA ad (cvM σ) sz) := by
  refine met_of (by decide) (Nat.le_of_ble_eq_true rfl) ?_
  intro p e s m below meth c ls hC hB hl
  obtain ⟨rfl, hR, hK⟩ := hB
  have hA : ∀ q : Nat, s.heap.size ≤ q → WA ad (cvM σ) s.heap.size q := fun q h => Or.inr h
  have hR := WW_fit (B := WA ad (cvM σ) s.heap.size) hR (fun f i h => WA_in h)
  have hS : va_S (WA ad (cvM σ) s.heap.size) s.heap s.heap [] := va_S.rf
  generalize WA ad (cvM σ) s.heap.size = A0 at hA hR hS ⊢
  have hC : CTX p s m _ meth c cX6_matches 6 RX6 none := hC
  obtain ⟨hx, hb, hml, hown, hts, hr, hlk⟩ := id hC
  have hl : lv_has ls 6 [(0, .ref (ad 0 0)), (1, .int a1)] := hl
  unfold fX6_matches at hf
  refine lv_aload_n hx hb dX6_matches_0 rfl (lv_at hl 0 rfl) ?_
  refine va_get (D := D) (ci := 7) (C := RX6) (T := TX6) (N := 22) hx hb hts iuX6 hown hK.1 (WW_one hR (f := 0) (i := 0) rfl) 0 rfl rfl 13 (by decide) (hts _ q_821) (fun _ h9 => h9) rfl dX6_matches_1 ?_
  refine lv_iload_n hx hb dX6_matches_4 rfl (lv_at hl 1 rfl) ?_
  obtain ⟨g1, hf⟩ := gd_of hf
  refine va_iald hx hb hK.1 (WW_one hR (f := 12) (i := 0) rfl) 0 0 rfl rfl g1 dX6_matches_5 ?_
  refine lv_topi (fun x2 hx2 => ?_)
  have hf := kst_eq hx2 hf
  refine lv_istore_n (lv' := [(2, .int x2), (0, .ref (ad 0 0)), (1, .int a1)]) hx hb dX6_matches_6 rfl hl (by decide) rfl (fun ls hl => ?_)
  refine lv_iconst (v := 0) hx hb dX6_matches_7 (by decide) ?_
  refine lv_istore_n (lv' := [(3, .int 0), (2, .int x2), (0, .ref (ad 0 0)), (1, .int a1)]) hx hb dX6_matches_8 rfl hl (by decide) rfl (fun ls hl => ?_)
  exact wX6_matches_L9 hC hK hA 1000 _ _ _ σ 0 x2 a1 hR hS (lv_sub hl [0, 1, 2, 3] rfl) hf
def fX6_place (σ : St) (a1 : Int32) (a2 : Int32) (a3 : Int32) (a4 : Int32) (a5 : Int32) : Option (Int32 × St) := bd (fX6_isMember σ a1) (fun q1 => if q1 = 0 then bd (fX6_asks σ 0) (fun q3 => if ¬ q3.1 = 0 then gd (vin a1 5) (if ¬ (gI q3.2 10 0 a1.toNatClampNeg) = 0 then bd (fX6_fails q3.2 2) (fun q7 => some ((q7.1, q7.2))) else gd (vin a2 3) (if ¬ (gI q3.2 16 0 a2.toNatClampNeg) = 0 then bd (fX6_fails q3.2 2) (fun q10 => some ((q10.1, q10.2))) else if ¬ (gI q3.2 21 0 0) = 100 then gd (vin (gI q3.2 21 0 0) 100) (gd (vin (gI (pI q3.2 11 0 (gI q3.2 21 0 0).toNatClampNeg a1) 21 0 0) 100) (gd (vin (gI (pI (pI q3.2 11 0 (gI q3.2 21 0 0).toNatClampNeg a1) 12 0 (gI (pI q3.2 11 0 (gI q3.2 21 0 0).toNatClampNeg a1) 21 0 0).toNatClampNeg a2) 21 0 0) 100) (gd (bz a3) (gd (vin (gI (pI (pI (pI q3.2 11 0 (gI q3.2 21 0 0).toNatClampNeg a1) 12 0 (gI (pI q3.2 11 0 (gI q3.2 21 0 0).toNatClampNeg a1) 21 0 0).toNatClampNeg a2) 13 0 (gI (pI (pI q3.2 11 0 (gI q3.2 21 0 0).toNatClampNeg a1) 12 0 (gI (pI q3.2 11 0 (gI q3.2 21 0 0).toNatClampNeg a1) 21 0 0).toNatClampNeg a2) 21 0 0).toNatClampNeg a3) 21 0 0) 100) (gd (vin (gI (pI (pI (pI (pI q3.2 11 0 (gI q3.2 21 0 0).toNatClampNeg a1) 12 0 (gI (pI q3.2 11 0 (gI q3.2 21 0 0).toNatClampNeg a1) 21 0 0).toNatClampNeg a2) 13 0 (gI (pI (pI q3.2 11 0 (gI q3.2 21 0 0).toNatClampNeg a1) 12 0 (gI (pI q3.2 11 0 (gI q3.2 21 0 0).toNatClampNeg a1) 21 0 0).toNatClampNeg a2) 21 0 0).toNatClampNeg a3) 14 0 (gI (pI (pI (pI q3.2 11 0 (gI q3.2 21 0 0).toNatClampNeg a1) 12 0 (gI (pI q3.2 11 0 (gI q3.2 21 0 0).toNatClampNeg a1) 21 0 0).toNatClampNeg a2) 13 0 (gI (pI (pI q3.2 11 0 (gI q3.2 21 0 0).toNatClampNeg a1) 12 0 (gI (pI q3.2 11 0 (gI q3.2 21 0 0).toNatClampNeg a1) 21 0 0).toNatClampNeg a2) 21 0 0).toNatClampNeg a3) 21 0 0).toNatClampNeg a4) 21 0 0) 100) (bd (fX6_matches (pI (pI (pI (pI (pI (pI q3.2 11 0 (gI q3.2 21 0 0).toNatClampNeg a1) 12 0 (gI (pI q3.2 11 0 (gI q3.2 21 0 0).toNatClampNeg a1) 21 0 0).toNatClampNeg a2) 13 0 (gI (pI (pI q3.2 11 0 (gI q3.2 21 0 0).toNatClampNeg a1) 12 0 (gI (pI q3.2 11 0 (gI q3.2 21 0 0).toNatClampNeg a1) 21 0 0).toNatClampNeg a2) 21 0 0).toNatClampNeg a3) 14 0 (gI (pI (pI (pI q3.2 11 0 (gI q3.2 21 0 0).toNatClampNeg a1) 12 0 (gI (pI q3.2 11 0 (gI q3.2 21 0 0).toNatClampNeg a1) 21 0 0).toNatClampNeg a2) 13 0 (gI (pI (pI q3.2 11 0 (gI q3.2 21 0 0).toNatClampNeg a1) 12 0 (gI (pI q3.2 11 0 (gI q3.2 21 0 0).toNatClampNeg a1) 21 0 0).toNatClampNeg a2) 21 0 0).toNatClampNeg a3) 21 0 0).toNatClampNeg a4) 15 0 (gI (pI (pI (pI (pI q3.2 11 0 (gI q3.2 21 0 0).toNatClampNeg a1) 12 0 (gI (pI q3.2 11 0 (gI q3.2 21 0 0).toNatClampNeg a1) 21 0 0).toNatClampNeg a2) 13 0 (gI (pI (pI q3.2 11 0 (gI q3.2 21 0 0).toNatClampNeg a1) 12 0 (gI (pI q3.2 11 0 (gI q3.2 21 0 0).toNatClampNeg a1) 21 0 0).toNatClampNeg a2) 21 0 0).toNatClampNeg a3) 14 0 (gI (pI (pI (pI q3.2 11 0 (gI q3.2 21 0 0).toNatClampNeg a1) 12 0 (gI (pI q3.2 11 0 (gI q3.2 21 0 0).toNatClampNeg a1) 21 0 0).toNatClampNeg a2) 13 0 (gI (pI (pI q3.2 11 0 (gI q3.2 21 0 0).toNatClampNeg a1) 12 0 (gI (pI q3.2 11 0 (gI q3.2 21 0 0).toNatClampNeg a1) 21 0 0).toNatClampNeg a2) 21 0 0).toNatClampNeg a3) 21 0 0).toNatClampNeg a4) 21 0 0).toNatClampNeg a5) 21 0 0 ((gI (pI (pI (pI (pI (pI q3.2 11 0 (gI q3.2 21 0 0).toNatClampNeg a1) 12 0 (gI (pI q3.2 11 0 (gI q3.2 21 0 0).toNatClampNeg a1) 21 0 0).toNatClampNeg a2) 13 0 (gI (pI (pI q3.2 11 0 (gI q3.2 21 0 0).toNatClampNeg a1) 12 0 (gI (pI q3.2 11 0 (gI q3.2 21 0 0).toNatClampNeg a1) 21 0 0).toNatClampNeg a2) 21 0 0).toNatClampNeg a3) 14 0 (gI (pI (pI (pI q3.2 11 0 (gI q3.2 21 0 0).toNatClampNeg a1) 12 0 (gI (pI q3.2 11 0 (gI q3.2 21 0 0).toNatClampNeg a1) 21 0 0).toNatClampNeg a2) 13 0 (gI (pI (pI q3.2 11 0 (gI q3.2 21 0 0).toNatClampNeg a1) 12 0 (gI (pI q3.2 11 0 (gI q3.2 21 0 0).toNatClampNeg a1) 21 0 0).toNatClampNeg a2) 21 0 0).toNatClampNeg a3) 21 0 0).toNatClampNeg a4) 15 0 (gI (pI (pI (pI (pI q3.2 11 0 (gI q3.2 21 0 0).toNatClampNeg a1) 12 0 (gI (pI q3.2 11 0 (gI q3.2 21 0 0).toNatClampNeg a1) 21 0 0).toNatClampNeg a2) 13 0 (gI (pI (pI q3.2 11 0 (gI q3.2 21 0 0).toNatClampNeg a1) 12 0 (gI (pI q3.2 11 0 (gI q3.2 21 0 0).toNatClampNeg a1) 21 0 0).toNatClampNeg a2) 21 0 0).toNatClampNeg a3) 14 0 (gI (pI (pI (pI q3.2 11 0 (gI q3.2 21 0 0).toNatClampNeg a1) 12 0 (gI (pI q3.2 11 0 (gI q3.2 21 0 0).toNatClampNeg a1) 21 0 0).toNatClampNeg a2) 13 0 (gI (pI (pI q3.2 11 0 (gI q3.2 21 0 0).toNatClampNeg a1) 12 0 (gI (pI q3.2 11 0 (gI q3.2 21 0 0).toNatClampNeg a1) 21 0 0).toNatClampNeg a2) 21 0 0).toNatClampNeg a3) 21 0 0).toNatClampNeg a4) 21 0 0).toNatClampNeg a5) 21 0 0) + 1)) ((gI (pI (pI (pI (pI (pI (pI q3.2 11 0 (gI q3.2 21 0 0).toNatClampNeg a1) 12 0 (gI (pI q3.2 11 0 (gI q3.2 21 0 0).toNatClampNeg a1) 21 0 0).toNatClampNeg a2) 13 0 (gI (pI (pI q3.2 11 0 (gI q3.2 21 0 0).toNatClampNeg a1) 12 0 (gI (pI q3.2 11 0 (gI q3.2 21 0 0).toNatClampNeg a1) 21 0 0).toNatClampNeg a2) 21 0 0).toNatClampNeg a3) 14 0 (gI (pI (pI (pI q3.2 11 0 (gI q3.2 21 0 0).toNatClampNeg a1) 12 0 (gI (pI q3.2 11 0 (gI q3.2 21 0 0).toNatClampNeg a1) 21 0 0).toNatClampNeg a2) 13 0 (gI (pI (pI q3.2 11 0 (gI q3.2 21 0 0).toNatClampNeg a1) 12 0 (gI (pI q3.2 11 0 (gI q3.2 21 0 0).toNatClampNeg a1) 21 0 0).toNatClampNeg a2) 21 0 0).toNatClampNeg a3) 21 0 0).toNatClampNeg a4) 15 0 (gI (pI (pI (pI (pI q3.2 11 0 (gI q3.2 21 0 0).toNatClampNeg a1) 12 0 (gI (pI q3.2 11 0 (gI q3.2 21 0 0).toNatClampNeg a1) 21 0 0).toNatClampNeg a2) 13 0 (gI (pI (pI q3.2 11 0 (gI q3.2 21 0 0).toNatClampNeg a1) 12 0 (gI (pI q3.2 11 0 (gI q3.2 21 0 0).toNatClampNeg a1) 21 0 0).toNatClampNeg a2) 21 0 0).toNatClampNeg a3) 14 0 (gI (pI (pI (pI q3.2 11 0 (gI q3.2 21 0 0).toNatClampNeg a1) 12 0 (gI (pI q3.2 11 0 (gI q3.2 21 0 0).toNatClampNeg a1) 21 0 0).toNatClampNeg a2) 13 0 (gI (pI (pI q3.2 11 0 (gI q3.2 21 0 0).toNatClampNeg a1) 12 0 (gI (pI q3.2 11 0 (gI q3.2 21 0 0).toNatClampNeg a1) 21 0 0).toNatClampNeg a2) 21 0 0).toNatClampNeg a3) 21 0 0).toNatClampNeg a4) 21 0 0).toNatClampNeg a5) 21 0 0 ((gI (pI (pI (pI (pI (pI q3.2 11 0 (gI q3.2 21 0 0).toNatClampNeg a1) 12 0 (gI (pI q3.2 11 0 (gI q3.2 21 0 0).toNatClampNeg a1) 21 0 0).toNatClampNeg a2) 13 0 (gI (pI (pI q3.2 11 0 (gI q3.2 21 0 0).toNatClampNeg a1) 12 0 (gI (pI q3.2 11 0 (gI q3.2 21 0 0).toNatClampNeg a1) 21 0 0).toNatClampNeg a2) 21 0 0).toNatClampNeg a3) 14 0 (gI (pI (pI (pI q3.2 11 0 (gI q3.2 21 0 0).toNatClampNeg a1) 12 0 (gI (pI q3.2 11 0 (gI q3.2 21 0 0).toNatClampNeg a1) 21 0 0).toNatClampNeg a2) 13 0 (gI (pI (pI q3.2 11 0 (gI q3.2 21 0 0).toNatClampNeg a1) 12 0 (gI (pI q3.2 11 0 (gI q3.2 21 0 0).toNatClampNeg a1) 21 0 0).toNatClampNeg a2) 21 0 0).toNatClampNeg a3) 21 0 0).toNatClampNeg a4) 15 0 (gI (pI (pI (pI (pI q3.2 11 0 (gI q3.2 21 0 0).toNatClampNeg a1) 12 0 (gI (pI q3.2 11 0 (gI q3.2 21 0 0).toNatClampNeg a1) 21 0 0).toNatClampNeg a2) 13 0 (gI (pI (pI q3.2 11 0 (gI q3.2 21 0 0).toNatClampNeg a1) 12 0 (gI (pI q3.2 11 0 (gI q3.2 21 0 0).toNatClampNeg a1) 21 0 0).toNatClampNeg a2) 21 0 0).toNatClampNeg a3) 14 0 (gI (pI (pI (pI q3.2 11 0 (gI q3.2 21 0 0).toNatClampNeg a1) 12 0 (gI (pI q3.2 11 0 (gI q3.2 21 0 0).toNatClampNeg a1) 21 0 0).toNatClampNeg a2) 13 0 (gI (pI (pI q3.2 11 0 (gI q3.2 21 0 0).toNatClampNeg a1) 12 0 (gI (pI q3.2 11 0 (gI q3.2 21 0 0).toNatClampNeg a1) 21 0 0).toNatClampNeg a2) 21 0 0).toNatClampNeg a3) 21 0 0).toNatClampNeg a4) 21 0 0).toNatClampNeg a5) 21 0 0) + 1)) 21 0 0) - 1)) (fun q18 => some (((gI q18 21 0 0) - 1, q18))))))))) else bd (fX6_fails q3.2 2) (fun q19 => some ((q19.1, q19.2))))) else some ((0, q3.2))) else bd (fX6_isProduct σ a2) (fun q20 => if q20 = 0 then bd (fX6_asks σ 0) (fun q22 => if ¬ q22.1 = 0 then gd (vin a1 5) (if ¬ (gI q22.2 10 0 a1.toNatClampNeg) = 0 then bd (fX6_fails q22.2 2) (fun q26 => some ((q26.1, q26.2))) else gd (vin a2 3) (if ¬ (gI q22.2 16 0 a2.toNatClampNeg) = 0 then bd (fX6_fails q22.2 2) (fun q29 => some ((q29.1, q29.2))) else if ¬ (gI q22.2 21 0 0) = 100 then gd (vin (gI q22.2 21 0 0) 100) (gd (vin (gI (pI q22.2 11 0 (gI q22.2 21 0 0).toNatClampNeg a1) 21 0 0) 100) (gd (vin (gI (pI (pI q22.2 11 0 (gI q22.2 21 0 0).toNatClampNeg a1) 12 0 (gI (pI q22.2 11 0 (gI q22.2 21 0 0).toNatClampNeg a1) 21 0 0).toNatClampNeg a2) 21 0 0) 100) (gd (bz a3) (gd (vin (gI (pI (pI (pI q22.2 11 0 (gI q22.2 21 0 0).toNatClampNeg a1) 12 0 (gI (pI q22.2 11 0 (gI q22.2 21 0 0).toNatClampNeg a1) 21 0 0).toNatClampNeg a2) 13 0 (gI (pI (pI q22.2 11 0 (gI q22.2 21 0 0).toNatClampNeg a1) 12 0 (gI (pI q22.2 11 0 (gI q22.2 21 0 0).toNatClampNeg a1) 21 0 0).toNatClampNeg a2) 21 0 0).toNatClampNeg a3) 21 0 0) 100) (gd (vin (gI (pI (pI (pI (pI q22.2 11 0 (gI q22.2 21 0 0).toNatClampNeg a1) 12 0 (gI (pI q22.2 11 0 (gI q22.2 21 0 0).toNatClampNeg a1) 21 0 0).toNatClampNeg a2) 13 0 (gI (pI (pI q22.2 11 0 (gI q22.2 21 0 0).toNatClampNeg a1) 12 0 (gI (pI q22.2 11 0 (gI q22.2 21 0 0).toNatClampNeg a1) 21 0 0).toNatClampNeg a2) 21 0 0).toNatClampNeg a3) 14 0 (gI (pI (pI (pI q22.2 11 0 (gI q22.2 21 0 0).toNatClampNeg a1) 12 0 (gI (pI q22.2 11 0 (gI q22.2 21 0 0).toNatClampNeg a1) 21 0 0).toNatClampNeg a2) 13 0 (gI (pI (pI q22.2 11 0 (gI q22.2 21 0 0).toNatClampNeg a1) 12 0 (gI (pI q22.2 11 0 (gI q22.2 21 0 0).toNatClampNeg a1) 21 0 0).toNatClampNeg a2) 21 0 0).toNatClampNeg a3) 21 0 0).toNatClampNeg a4) 21 0 0) 100) (bd (fX6_matches (pI (pI (pI (pI (pI (pI q22.2 11 0 (gI q22.2 21 0 0).toNatClampNeg a1) 12 0 (gI (pI q22.2 11 0 (gI q22.2 21 0 0).toNatClampNeg a1) 21 0 0).toNatClampNeg a2) 13 0 (gI (pI (pI q22.2 11 0 (gI q22.2 21 0 0).toNatClampNeg a1) 12 0 (gI (pI q22.2 11 0 (gI q22.2 21 0 0).toNatClampNeg a1) 21 0 0).toNatClampNeg a2) 21 0 0).toNatClampNeg a3) 14 0 (gI (pI (pI (pI q22.2 11 0 (gI q22.2 21 0 0).toNatClampNeg a1) 12 0 (gI (pI q22.2 11 0 (gI q22.2 21 0 0).toNatClampNeg a1) 21 0 0).toNatClampNeg a2) 13 0 (gI (pI (pI q22.2 11 0 (gI q22.2 21 0 0).toNatClampNeg a1) 12 0 (gI (pI q22.2 11 0 (gI q22.2 21 0 0).toNatClampNeg a1) 21 0 0).toNatClampNeg a2) 21 0 0).toNatClampNeg a3) 21 0 0).toNatClampNeg a4) 15 0 (gI (pI (pI (pI (pI q22.2 11 0 (gI q22.2 21 0 0).toNatClampNeg a1) 12 0 (gI (pI q22.2 11 0 (gI q22.2 21 0 0).toNatClampNeg a1) 21 0 0).toNatClampNeg a2) 13 0 (gI (pI (pI q22.2 11 0 (gI q22.2 21 0 0).toNatClampNeg a1) 12 0 (gI (pI q22.2 11 0 (gI q22.2 21 0 0).toNatClampNeg a1) 21 0 0).toNatClampNeg a2) 21 0 0).toNatClampNeg a3) 14 0 (gI (pI (pI (pI q22.2 11 0 (gI q22.2 21 0 0).toNatClampNeg a1) 12 0 (gI (pI q22.2 11 0 (gI q22.2 21 0 0).toNatClampNeg a1) 21 0 0).toNatClampNeg a2) 13 0 (gI (pI (pI q22.2 11 0 (gI q22.2 21 0 0).toNatClampNeg a1) 12 0 (gI (pI q22.2 11 0 (gI q22.2 21 0 0).toNatClampNeg a1) 21 0 0).toNatClampNeg a2) 21 0 0).toNatClampNeg a3) 21 0 0).toNatClampNeg a4) 21 0 0).toNatClampNeg a5) 21 0 0 ((gI (pI (pI (pI (pI (pI q22.2 11 0 (gI q22.2 21 0 0).toNatClampNeg a1) 12 0 (gI (pI q22.2 11 0 (gI q22.2 21 0 0).toNatClampNeg a1) 21 0 0).toNatClampNeg a2) 13 0 (gI (pI (pI q22.2 11 0 (gI q22.2 21 0 0).toNatClampNeg a1) 12 0 (gI (pI q22.2 11 0 (gI q22.2 21 0 0).toNatClampNeg a1) 21 0 0).toNatClampNeg a2) 21 0 0).toNatClampNeg a3) 14 0 (gI (pI (pI (pI q22.2 11 0 (gI q22.2 21 0 0).toNatClampNeg a1) 12 0 (gI (pI q22.2 11 0 (gI q22.2 21 0 0).toNatClampNeg a1) 21 0 0).toNatClampNeg a2) 13 0 (gI (pI (pI q22.2 11 0 (gI q22.2 21 0 0).toNatClampNeg a1) 12 0 (gI (pI q22.2 11 0 (gI q22.2 21 0 0).toNatClampNeg a1) 21 0 0).toNatClampNeg a2) 21 0 0).toNatClampNeg a3) 21 0 0).toNatClampNeg a4) 15 0 (gI (pI (pI (pI (pI q22.2 11 0 (gI q22.2 21 0 0).toNatClampNeg a1) 12 0 (gI (pI q22.2 11 0 (gI q22.2 21 0 0).toNatClampNeg a1) 21 0 0).toNatClampNeg a2) 13 0 (gI (pI (pI q22.2 11 0 (gI q22.2 21 0 0).toNatClampNeg a1) 12 0 (gI (pI q22.2 11 0 (gI q22.2 21 0 0).toNatClampNeg a1) 21 0 0).toNatClampNeg a2) 21 0 0).toNatClampNeg a3) 14 0 (gI (pI (pI (pI q22.2 11 0 (gI q22.2 21 0 0).toNatClampNeg a1) 12 0 (gI (pI q22.2 11 0 (gI q22.2 21 0 0).toNatClampNeg a1) 21 0 0).toNatClampNeg a2) 13 0 (gI (pI (pI q22.2 11 0 (gI q22.2 21 0 0).toNatClampNeg a1) 12 0 (gI (pI q22.2 11 0 (gI q22.2 21 0 0).toNatClampNeg a1) 21 0 0).toNatClampNeg a2) 21 0 0).toNatClampNeg a3) 21 0 0).toNatClampNeg a4) 21 0 0).toNatClampNeg a5) 21 0 0) + 1)) ((gI (pI (pI (pI (pI (pI (pI q22.2 11 0 (gI q22.2 21 0 0).toNatClampNeg a1) 12 0 (gI (pI q22.2 11 0 (gI q22.2 21 0 0).toNatClampNeg a1) 21 0 0).toNatClampNeg a2) 13 0 (gI (pI (pI q22.2 11 0 (gI q22.2 21 0 0).toNatClampNeg a1) 12 0 (gI (pI q22.2 11 0 (gI q22.2 21 0 0).toNatClampNeg a1) 21 0 0).toNatClampNeg a2) 21 0 0).toNatClampNeg a3) 14 0 (gI (pI (pI (pI q22.2 11 0 (gI q22.2 21 0 0).toNatClampNeg a1) 12 0 (gI (pI q22.2 11 0 (gI q22.2 21 0 0).toNatClampNeg a1) 21 0 0).toNatClampNeg a2) 13 0 (gI (pI (pI q22.2 11 0 (gI q22.2 21 0 0).toNatClampNeg a1) 12 0 (gI (pI q22.2 11 0 (gI q22.2 21 0 0).toNatClampNeg a1) 21 0 0).toNatClampNeg a2) 21 0 0).toNatClampNeg a3) 21 0 0).toNatClampNeg a4) 15 0 (gI (pI (pI (pI (pI q22.2 11 0 (gI q22.2 21 0 0).toNatClampNeg a1) 12 0 (gI (pI q22.2 11 0 (gI q22.2 21 0 0).toNatClampNeg a1) 21 0 0).toNatClampNeg a2) 13 0 (gI (pI (pI q22.2 11 0 (gI q22.2 21 0 0).toNatClampNeg a1) 12 0 (gI (pI q22.2 11 0 (gI q22.2 21 0 0).toNatClampNeg a1) 21 0 0).toNatClampNeg a2) 21 0 0).toNatClampNeg a3) 14 0 (gI (pI (pI (pI q22.2 11 0 (gI q22.2 21 0 0).toNatClampNeg a1) 12 0 (gI (pI q22.2 11 0 (gI q22.2 21 0 0).toNatClampNeg a1) 21 0 0).toNatClampNeg a2) 13 0 (gI (pI (pI q22.2 11 0 (gI q22.2 21 0 0).toNatClampNeg a1) 12 0 (gI (pI q22.2 11 0 (gI q22.2 21 0 0).toNatClampNeg a1) 21 0 0).toNatClampNeg a2) 21 0 0).toNatClampNeg a3) 21 0 0).toNatClampNeg a4) 21 0 0).toNatClampNeg a5) 21 0 0 ((gI (pI (pI (pI (pI (pI q22.2 11 0 (gI q22.2 21 0 0).toNatClampNeg a1) 12 0 (gI (pI q22.2 11 0 (gI q22.2 21 0 0).toNatClampNeg a1) 21 0 0).toNatClampNeg a2) 13 0 (gI (pI (pI q22.2 11 0 (gI q22.2 21 0 0).toNatClampNeg a1) 12 0 (gI (pI q22.2 11 0 (gI q22.2 21 0 0).toNatClampNeg a1) 21 0 0).toNatClampNeg a2) 21 0 0).toNatClampNeg a3) 14 0 (gI (pI (pI (pI q22.2 11 0 (gI q22.2 21 0 0).toNatClampNeg a1) 12 0 (gI (pI q22.2 11 0 (gI q22.2 21 0 0).toNatClampNeg a1) 21 0 0).toNatClampNeg a2) 13 0 (gI (pI (pI q22.2 11 0 (gI q22.2 21 0 0).toNatClampNeg a1) 12 0 (gI (pI q22.2 11 0 (gI q22.2 21 0 0).toNatClampNeg a1) 21 0 0).toNatClampNeg a2) 21 0 0).toNatClampNeg a3) 21 0 0).toNatClampNeg a4) 15 0 (gI (pI (pI (pI (pI q22.2 11 0 (gI q22.2 21 0 0).toNatClampNeg a1) 12 0 (gI (pI q22.2 11 0 (gI q22.2 21 0 0).toNatClampNeg a1) 21 0 0).toNatClampNeg a2) 13 0 (gI (pI (pI q22.2 11 0 (gI q22.2 21 0 0).toNatClampNeg a1) 12 0 (gI (pI q22.2 11 0 (gI q22.2 21 0 0).toNatClampNeg a1) 21 0 0).toNatClampNeg a2) 21 0 0).toNatClampNeg a3) 14 0 (gI (pI (pI (pI q22.2 11 0 (gI q22.2 21 0 0).toNatClampNeg a1) 12 0 (gI (pI q22.2 11 0 (gI q22.2 21 0 0).toNatClampNeg a1) 21 0 0).toNatClampNeg a2) 13 0 (gI (pI (pI q22.2 11 0 (gI q22.2 21 0 0).toNatClampNeg a1) 12 0 (gI (pI q22.2 11 0 (gI q22.2 21 0 0).toNatClampNeg a1) 21 0 0).toNatClampNeg a2) 21 0 0).toNatClampNeg a3) 21 0 0).toNatClampNeg a4) 21 0 0).toNatClampNeg a5) 21 0 0) + 1)) 21 0 0) - 1)) (fun q37 => some (((gI q37 21 0 0) - 1, q37))))))))) else bd (fX6_fails q22.2 2) (fun q38 => some ((q38.1, q38.2))))) else some ((0, q22.2))) else bd (fX6_in σ a4 1 9999) (fun q39 => if q39 = 0 then bd (fX6_asks σ 0) (fun q41 => if ¬ q41.1 = 0 then gd (vin a1 5) (if ¬ (gI q41.2 10 0 a1.toNatClampNeg) = 0 then bd (fX6_fails q41.2 2) (fun q45 => some ((q45.1, q45.2))) else gd (vin a2 3) (if ¬ (gI q41.2 16 0 a2.toNatClampNeg) = 0 then bd (fX6_fails q41.2 2) (fun q48 => some ((q48.1, q48.2))) else if ¬ (gI q41.2 21 0 0) = 100 then gd (vin (gI q41.2 21 0 0) 100) (gd (vin (gI (pI q41.2 11 0 (gI q41.2 21 0 0).toNatClampNeg a1) 21 0 0) 100) (gd (vin (gI (pI (pI q41.2 11 0 (gI q41.2 21 0 0).toNatClampNeg a1) 12 0 (gI (pI q41.2 11 0 (gI q41.2 21 0 0).toNatClampNeg a1) 21 0 0).toNatClampNeg a2) 21 0 0) 100) (gd (bz a3) (gd (vin (gI (pI (pI (pI q41.2 11 0 (gI q41.2 21 0 0).toNatClampNeg a1) 12 0 (gI (pI q41.2 11 0 (gI q41.2 21 0 0).toNatClampNeg a1) 21 0 0).toNatClampNeg a2) 13 0 (gI (pI (pI q41.2 11 0 (gI q41.2 21 0 0).toNatClampNeg a1) 12 0 (gI (pI q41.2 11 0 (gI q41.2 21 0 0).toNatClampNeg a1) 21 0 0).toNatClampNeg a2) 21 0 0).toNatClampNeg a3) 21 0 0) 100) (gd (vin (gI (pI (pI (pI (pI q41.2 11 0 (gI q41.2 21 0 0).toNatClampNeg a1) 12 0 (gI (pI q41.2 11 0 (gI q41.2 21 0 0).toNatClampNeg a1) 21 0 0).toNatClampNeg a2) 13 0 (gI (pI (pI q41.2 11 0 (gI q41.2 21 0 0).toNatClampNeg a1) 12 0 (gI (pI q41.2 11 0 (gI q41.2 21 0 0).toNatClampNeg a1) 21 0 0).toNatClampNeg a2) 21 0 0).toNatClampNeg a3) 14 0 (gI (pI (pI (pI q41.2 11 0 (gI q41.2 21 0 0).toNatClampNeg a1) 12 0 (gI (pI q41.2 11 0 (gI q41.2 21 0 0).toNatClampNeg a1) 21 0 0).toNatClampNeg a2) 13 0 (gI (pI (pI q41.2 11 0 (gI q41.2 21 0 0).toNatClampNeg a1) 12 0 (gI (pI q41.2 11 0 (gI q41.2 21 0 0).toNatClampNeg a1) 21 0 0).toNatClampNeg a2) 21 0 0).toNatClampNeg a3) 21 0 0).toNatClampNeg a4) 21 0 0) 100) (bd (fX6_matches (pI (pI (pI (pI (pI (pI q41.2 11 0 (gI q41.2 21 0 0).toNatClampNeg a1) 12 0 (gI (pI q41.2 11 0 (gI q41.2 21 0 0).toNatClampNeg a1) 21 0 0).toNatClampNeg a2) 13 0 (gI (pI (pI q41.2 11 0 (gI q41.2 21 0 0).toNatClampNeg a1) 12 0 (gI (pI q41.2 11 0 (gI q41.2 21 0 0).toNatClampNeg a1) 21 0 0).toNatClampNeg a2) 21 0 0).toNatClampNeg a3) 14 0 (gI (pI (pI (pI q41.2 11 0 (gI q41.2 21 0 0).toNatClampNeg a1) 12 0 (gI (pI q41.2 11 0 (gI q41.2 21 0 0).toNatClampNeg a1) 21 0 0).toNatClampNeg a2) 13 0 (gI (pI (pI q41.2 11 0 (gI q41.2 21 0 0).toNatClampNeg a1) 12 0 (gI (pI q41.2 11 0 (gI q41.2 21 0 0).toNatClampNeg a1) 21 0 0).toNatClampNeg a2) 21 0 0).toNatClampNeg a3) 21 0 0).toNatClampNeg a4) 15 0 (gI (pI (pI (pI (pI q41.2 11 0 (gI q41.2 21 0 0).toNatClampNeg a1) 12 0 (gI (pI q41.2 11 0 (gI q41.2 21 0 0).toNatClampNeg a1) 21 0 0).toNatClampNeg a2) 13 0 (gI (pI (pI q41.2 11 0 (gI q41.2 21 0 0).toNatClampNeg a1) 12 0 (gI (pI q41.2 11 0 (gI q41.2 21 0 0).toNatClampNeg a1) 21 0 0).toNatClampNeg a2) 21 0 0).toNatClampNeg a3) 14 0 (gI (pI (pI (pI q41.2 11 0 (gI q41.2 21 0 0).toNatClampNeg a1) 12 0 (gI (pI q41.2 11 0 (gI q41.2 21 0 0).toNatClampNeg a1) 21 0 0).toNatClampNeg a2) 13 0 (gI (pI (pI q41.2 11 0 (gI q41.2 21 0 0).toNatClampNeg a1) 12 0 (gI (pI q41.2 11 0 (gI q41.2 21 0 0).toNatClampNeg a1) 21 0 0).toNatClampNeg a2) 21 0 0).toNatClampNeg a3) 21 0 0).toNatClampNeg a4) 21 0 0).toNatClampNeg a5) 21 0 0 ((gI (pI (pI (pI (pI (pI q41.2 11 0 (gI q41.2 21 0 0).toNatClampNeg a1) 12 0 (gI (pI q41.2 11 0 (gI q41.2 21 0 0).toNatClampNeg a1) 21 0 0).toNatClampNeg a2) 13 0 (gI (pI (pI q41.2 11 0 (gI q41.2 21 0 0).toNatClampNeg a1) 12 0 (gI (pI q41.2 11 0 (gI q41.2 21 0 0).toNatClampNeg a1) 21 0 0).toNatClampNeg a2) 21 0 0).toNatClampNeg a3) 14 0 (gI (pI (pI (pI q41.2 11 0 (gI q41.2 21 0 0).toNatClampNeg a1) 12 0 (gI (pI q41.2 11 0 (gI q41.2 21 0 0).toNatClampNeg a1) 21 0 0).toNatClampNeg a2) 13 0 (gI (pI (pI q41.2 11 0 (gI q41.2 21 0 0).toNatClampNeg a1) 12 0 (gI (pI q41.2 11 0 (gI q41.2 21 0 0).toNatClampNeg a1) 21 0 0).toNatClampNeg a2) 21 0 0).toNatClampNeg a3) 21 0 0).toNatClampNeg a4) 15 0 (gI (pI (pI (pI (pI q41.2 11 0 (gI q41.2 21 0 0).toNatClampNeg a1) 12 0 (gI (pI q41.2 11 0 (gI q41.2 21 0 0).toNatClampNeg a1) 21 0 0).toNatClampNeg a2) 13 0 (gI (pI (pI q41.2 11 0 (gI q41.2 21 0 0).toNatClampNeg a1) 12 0 (gI (pI q41.2 11 0 (gI q41.2 21 0 0).toNatClampNeg a1) 21 0 0).toNatClampNeg a2) 21 0 0).toNatClampNeg a3) 14 0 (gI (pI (pI (pI q41.2 11 0 (gI q41.2 21 0 0).toNatClampNeg a1) 12 0 (gI (pI q41.2 11 0 (gI q41.2 21 0 0).toNatClampNeg a1) 21 0 0).toNatClampNeg a2) 13 0 (gI (pI (pI q41.2 11 0 (gI q41.2 21 0 0).toNatClampNeg a1) 12 0 (gI (pI q41.2 11 0 (gI q41.2 21 0 0).toNatClampNeg a1) 21 0 0).toNatClampNeg a2) 21 0 0).toNatClampNeg a3) 21 0 0).toNatClampNeg a4) 21 0 0).toNatClampNeg a5) 21 0 0) + 1)) ((gI (pI (pI (pI (pI (pI (pI q41.2 11 0 (gI q41.2 21 0 0).toNatClampNeg a1) 12 0 (gI (pI q41.2 11 0 (gI q41.2 21 0 0).toNatClampNeg a1) 21 0 0).toNatClampNeg a2) 13 0 (gI (pI (pI q41.2 11 0 (gI q41.2 21 0 0).toNatClampNeg a1) 12 0 (gI (pI q41.2 11 0 (gI q41.2 21 0 0).toNatClampNeg a1) 21 0 0).toNatClampNeg a2) 21 0 0).toNatClampNeg a3) 14 0 (gI (pI (pI (pI q41.2 11 0 (gI q41.2 21 0 0).toNatClampNeg a1) 12 0 (gI (pI q41.2 11 0 (gI q41.2 21 0 0).toNatClampNeg a1) 21 0 0).toNatClampNeg a2) 13 0 (gI (pI (pI q41.2 11 0 (gI q41.2 21 0 0).toNatClampNeg a1) 12 0 (gI (pI q41.2 11 0 (gI q41.2 21 0 0).toNatClampNeg a1) 21 0 0).toNatClampNeg a2) 21 0 0).toNatClampNeg a3) 21 0 0).toNatClampNeg a4) 15 0 (gI (pI (pI (pI (pI q41.2 11 0 (gI q41.2 21 0 0).toNatClampNeg a1) 12 0 (gI (pI q41.2 11 0 (gI q41.2 21 0 0).toNatClampNeg a1) 21 0 0).toNatClampNeg a2) 13 0 (gI (pI (pI q41.2 11 0 (gI q41.2 21 0 0).toNatClampNeg a1) 12 0 (gI (pI q41.2 11 0 (gI q41.2 21 0 0).toNatClampNeg a1) 21 0 0).toNatClampNeg a2) 21 0 0).toNatClampNeg a3) 14 0 (gI (pI (pI (pI q41.2 11 0 (gI q41.2 21 0 0).toNatClampNeg a1) 12 0 (gI (pI q41.2 11 0 (gI q41.2 21 0 0).toNatClampNeg a1) 21 0 0).toNatClampNeg a2) 13 0 (gI (pI (pI q41.2 11 0 (gI q41.2 21 0 0).toNatClampNeg a1) 12 0 (gI (pI q41.2 11 0 (gI q41.2 21 0 0).toNatClampNeg a1) 21 0 0).toNatClampNeg a2) 21 0 0).toNatClampNeg a3) 21 0 0).toNatClampNeg a4) 21 0 0).toNatClampNeg a5) 21 0 0 ((gI (pI (pI (pI (pI (pI q41.2 11 0 (gI q41.2 21 0 0).toNatClampNeg a1) 12 0 (gI (pI q41.2 11 0 (gI q41.2 21 0 0).toNatClampNeg a1) 21 0 0).toNatClampNeg a2) 13 0 (gI (pI (pI q41.2 11 0 (gI q41.2 21 0 0).toNatClampNeg a1) 12 0 (gI (pI q41.2 11 0 (gI q41.2 21 0 0).toNatClampNeg a1) 21 0 0).toNatClampNeg a2) 21 0 0).toNatClampNeg a3) 14 0 (gI (pI (pI (pI q41.2 11 0 (gI q41.2 21 0 0).toNatClampNeg a1) 12 0 (gI (pI q41.2 11 0 (gI q41.2 21 0 0).toNatClampNeg a1) 21 0 0).toNatClampNeg a2) 13 0 (gI (pI (pI q41.2 11 0 (gI q41.2 21 0 0).toNatClampNeg a1) 12 0 (gI (pI q41.2 11 0 (gI q41.2 21 0 0).toNatClampNeg a1) 21 0 0).toNatClampNeg a2) 21 0 0).toNatClampNeg a3) 21 0 0).toNatClampNeg a4) 15 0 (gI (pI (pI (pI (pI q41.2 11 0 (gI q41.2 21 0 0).toNatClampNeg a1) 12 0 (gI (pI q41.2 11 0 (gI q41.2 21 0 0).toNatClampNeg a1) 21 0 0).toNatClampNeg a2) 13 0 (gI (pI (pI q41.2 11 0 (gI q41.2 21 0 0).toNatClampNeg a1) 12 0 (gI (pI q41.2 11 0 (gI q41.2 21 0 0).toNatClampNeg a1) 21 0 0).toNatClampNeg a2) 21 0 0).toNatClampNeg a3) 14 0 (gI (pI (pI (pI q41.2 11 0 (gI q41.2 21 0 0).toNatClampNeg a1) 12 0 (gI (pI q41.2 11 0 (gI q41.2 21 0 0).toNatClampNeg a1) 21 0 0).toNatClampNeg a2) 13 0 (gI (pI (pI q41.2 11 0 (gI q41.2 21 0 0).toNatClampNeg a1) 12 0 (gI (pI q41.2 11 0 (gI q41.2 21 0 0).toNatClampNeg a1) 21 0 0).toNatClampNeg a2) 21 0 0).toNatClampNeg a3) 21 0 0).toNatClampNeg a4) 21 0 0).toNatClampNeg a5) 21 0 0) + 1)) 21 0 0) - 1)) (fun q56 => some (((gI q56 21 0 0) - 1, q56))))))))) else bd (fX6_fails q41.2 2) (fun q57 => some ((q57.1, q57.2))))) else some ((0, q41.2))) else bd (fX6_in σ a5 1 100) (fun q58 => if q58 = 0 then bd (fX6_asks σ 0) (fun q60 => if ¬ q60.1 = 0 then gd (vin a1 5) (if ¬ (gI q60.2 10 0 a1.toNatClampNeg) = 0 then bd (fX6_fails q60.2 2) (fun q64 => some ((q64.1, q64.2))) else gd (vin a2 3) (if ¬ (gI q60.2 16 0 a2.toNatClampNeg) = 0 then bd (fX6_fails q60.2 2) (fun q67 => some ((q67.1, q67.2))) else if ¬ (gI q60.2 21 0 0) = 100 then gd (vin (gI q60.2 21 0 0) 100) (gd (vin (gI (pI q60.2 11 0 (gI q60.2 21 0 0).toNatClampNeg a1) 21 0 0) 100) (gd (vin (gI (pI (pI q60.2 11 0 (gI q60.2 21 0 0).toNatClampNeg a1) 12 0 (gI (pI q60.2 11 0 (gI q60.2 21 0 0).toNatClampNeg a1) 21 0 0).toNatClampNeg a2) 21 0 0) 100) (gd (bz a3) (gd (vin (gI (pI (pI (pI q60.2 11 0 (gI q60.2 21 0 0).toNatClampNeg a1) 12 0 (gI (pI q60.2 11 0 (gI q60.2 21 0 0).toNatClampNeg a1) 21 0 0).toNatClampNeg a2) 13 0 (gI (pI (pI q60.2 11 0 (gI q60.2 21 0 0).toNatClampNeg a1) 12 0 (gI (pI q60.2 11 0 (gI q60.2 21 0 0).toNatClampNeg a1) 21 0 0).toNatClampNeg a2) 21 0 0).toNatClampNeg a3) 21 0 0) 100) (gd (vin (gI (pI (pI (pI (pI q60.2 11 0 (gI q60.2 21 0 0).toNatClampNeg a1) 12 0 (gI (pI q60.2 11 0 (gI q60.2 21 0 0).toNatClampNeg a1) 21 0 0).toNatClampNeg a2) 13 0 (gI (pI (pI q60.2 11 0 (gI q60.2 21 0 0).toNatClampNeg a1) 12 0 (gI (pI q60.2 11 0 (gI q60.2 21 0 0).toNatClampNeg a1) 21 0 0).toNatClampNeg a2) 21 0 0).toNatClampNeg a3) 14 0 (gI (pI (pI (pI q60.2 11 0 (gI q60.2 21 0 0).toNatClampNeg a1) 12 0 (gI (pI q60.2 11 0 (gI q60.2 21 0 0).toNatClampNeg a1) 21 0 0).toNatClampNeg a2) 13 0 (gI (pI (pI q60.2 11 0 (gI q60.2 21 0 0).toNatClampNeg a1) 12 0 (gI (pI q60.2 11 0 (gI q60.2 21 0 0).toNatClampNeg a1) 21 0 0).toNatClampNeg a2) 21 0 0).toNatClampNeg a3) 21 0 0).toNatClampNeg a4) 21 0 0) 100) (bd (fX6_matches (pI (pI (pI (pI (pI (pI q60.2 11 0 (gI q60.2 21 0 0).toNatClampNeg a1) 12 0 (gI (pI q60.2 11 0 (gI q60.2 21 0 0).toNatClampNeg a1) 21 0 0).toNatClampNeg a2) 13 0 (gI (pI (pI q60.2 11 0 (gI q60.2 21 0 0).toNatClampNeg a1) 12 0 (gI (pI q60.2 11 0 (gI q60.2 21 0 0).toNatClampNeg a1) 21 0 0).toNatClampNeg a2) 21 0 0).toNatClampNeg a3) 14 0 (gI (pI (pI (pI q60.2 11 0 (gI q60.2 21 0 0).toNatClampNeg a1) 12 0 (gI (pI q60.2 11 0 (gI q60.2 21 0 0).toNatClampNeg a1) 21 0 0).toNatClampNeg a2) 13 0 (gI (pI (pI q60.2 11 0 (gI q60.2 21 0 0).toNatClampNeg a1) 12 0 (gI (pI q60.2 11 0 (gI q60.2 21 0 0).toNatClampNeg a1) 21 0 0).toNatClampNeg a2) 21 0 0).toNatClampNeg a3) 21 0 0).toNatClampNeg a4) 15 0 (gI (pI (pI (pI (pI q60.2 11 0 (gI q60.2 21 0 0).toNatClampNeg a1) 12 0 (gI (pI q60.2 11 0 (gI q60.2 21 0 0).toNatClampNeg a1) 21 0 0).toNatClampNeg a2) 13 0 (gI (pI (pI q60.2 11 0 (gI q60.2 21 0 0).toNatClampNeg a1) 12 0 (gI (pI q60.2 11 0 (gI q60.2 21 0 0).toNatClampNeg a1) 21 0 0).toNatClampNeg a2) 21 0 0).toNatClampNeg a3) 14 0 (gI (pI (pI (pI q60.2 11 0 (gI q60.2 21 0 0).toNatClampNeg a1) 12 0 (gI (pI q60.2 11 0 (gI q60.2 21 0 0).toNatClampNeg a1) 21 0 0).toNatClampNeg a2) 13 0 (gI (pI (pI q60.2 11 0 (gI q60.2 21 0 0).toNatClampNeg a1) 12 0 (gI (pI q60.2 11 0 (gI q60.2 21 0 0).toNatClampNeg a1) 21 0 0).toNatClampNeg a2) 21 0 0).toNatClampNeg a3) 21 0 0).toNatClampNeg a4) 21 0 0).toNatClampNeg a5) 21 0 0 ((gI (pI (pI (pI (pI (pI q60.2 11 0 (gI q60.2 21 0 0).toNatClampNeg a1) 12 0 (gI (pI q60.2 11 0 (gI q60.2 21 0 0).toNatClampNeg a1) 21 0 0).toNatClampNeg a2) 13 0 (gI (pI (pI q60.2 11 0 (gI q60.2 21 0 0).toNatClampNeg a1) 12 0 (gI (pI q60.2 11 0 (gI q60.2 21 0 0).toNatClampNeg a1) 21 0 0).toNatClampNeg a2) 21 0 0).toNatClampNeg a3) 14 0 (gI (pI (pI (pI q60.2 11 0 (gI q60.2 21 0 0).toNatClampNeg a1) 12 0 (gI (pI q60.2 11 0 (gI q60.2 21 0 0).toNatClampNeg a1) 21 0 0).toNatClampNeg a2) 13 0 (gI (pI (pI q60.2 11 0 (gI q60.2 21 0 0).toNatClampNeg a1) 12 0 (gI (pI q60.2 11 0 (gI q60.2 21 0 0).toNatClampNeg a1) 21 0 0).toNatClampNeg a2) 21 0 0).toNatClampNeg a3) 21 0 0).toNatClampNeg a4) 15 0 (gI (pI (pI (pI (pI q60.2 11 0 (gI q60.2 21 0 0).toNatClampNeg a1) 12 0 (gI (pI q60.2 11 0 (gI q60.2 21 0 0).toNatClampNeg a1) 21 0 0).toNatClampNeg a2) 13 0 (gI (pI (pI q60.2 11 0 (gI q60.2 21 0 0).toNatClampNeg a1) 12 0 (gI (pI q60.2 11 0 (gI q60.2 21 0 0).toNatClampNeg a1) 21 0 0).toNatClampNeg a2) 21 0 0).toNatClampNeg a3) 14 0 (gI (pI (pI (pI q60.2 11 0 (gI q60.2 21 0 0).toNatClampNeg a1) 12 0 (gI (pI q60.2 11 0 (gI q60.2 21 0 0).toNatClampNeg a1) 21 0 0).toNatClampNeg a2) 13 0 (gI (pI (pI q60.2 11 0 (gI q60.2 21 0 0).toNatClampNeg a1) 12 0 (gI (pI q60.2 11 0 (gI q60.2 21 0 0).toNatClampNeg a1) 21 0 0).toNatClampNeg a2) 21 0 0).toNatClampNeg a3) 21 0 0).toNatClampNeg a4) 21 0 0).toNatClampNeg a5) 21 0 0) + 1)) ((gI (pI (pI (pI (pI (pI (pI q60.2 11 0 (gI q60.2 21 0 0).toNatClampNeg a1) 12 0 (gI (pI q60.2 11 0 (gI q60.2 21 0 0).toNatClampNeg a1) 21 0 0).toNatClampNeg a2) 13 0 (gI (pI (pI q60.2 11 0 (gI q60.2 21 0 0).toNatClampNeg a1) 12 0 (gI (pI q60.2 11 0 (gI q60.2 21 0 0).toNatClampNeg a1) 21 0 0).toNatClampNeg a2) 21 0 0).toNatClampNeg a3) 14 0 (gI (pI (pI (pI q60.2 11 0 (gI q60.2 21 0 0).toNatClampNeg a1) 12 0 (gI (pI q60.2 11 0 (gI q60.2 21 0 0).toNatClampNeg a1) 21 0 0).toNatClampNeg a2) 13 0 (gI (pI (pI q60.2 11 0 (gI q60.2 21 0 0).toNatClampNeg a1) 12 0 (gI (pI q60.2 11 0 (gI q60.2 21 0 0).toNatClampNeg a1) 21 0 0).toNatClampNeg a2) 21 0 0).toNatClampNeg a3) 21 0 0).toNatClampNeg a4) 15 0 (gI (pI (pI (pI (pI q60.2 11 0 (gI q60.2 21 0 0).toNatClampNeg a1) 12 0 (gI (pI q60.2 11 0 (gI q60.2 21 0 0).toNatClampNeg a1) 21 0 0).toNatClampNeg a2) 13 0 (gI (pI (pI q60.2 11 0 (gI q60.2 21 0 0).toNatClampNeg a1) 12 0 (gI (pI q60.2 11 0 (gI q60.2 21 0 0).toNatClampNeg a1) 21 0 0).toNatClampNeg a2) 21 0 0).toNatClampNeg a3) 14 0 (gI (pI (pI (pI q60.2 11 0 (gI q60.2 21 0 0).toNatClampNeg a1) 12 0 (gI (pI q60.2 11 0 (gI q60.2 21 0 0).toNatClampNeg a1) 21 0 0).toNatClampNeg a2) 13 0 (gI (pI (pI q60.2 11 0 (gI q60.2 21 0 0).toNatClampNeg a1) 12 0 (gI (pI q60.2 11 0 (gI q60.2 21 0 0).toNatClampNeg a1) 21 0 0).toNatClampNeg a2) 21 0 0).toNatClampNeg a3) 21 0 0).toNatClampNeg a4) 21 0 0).toNatClampNeg a5) 21 0 0 ((gI (pI (pI (pI (pI (pI q60.2 11 0 (gI q60.2 21 0 0).toNatClampNeg a1) 12 0 (gI (pI q60.2 11 0 (gI q60.2 21 0 0).toNatClampNeg a1) 21 0 0).toNatClampNeg a2) 13 0 (gI (pI (pI q60.2 11 0 (gI q60.2 21 0 0).toNatClampNeg a1) 12 0 (gI (pI q60.2 11 0 (gI q60.2 21 0 0).toNatClampNeg a1) 21 0 0).toNatClampNeg a2) 21 0 0).toNatClampNeg a3) 14 0 (gI (pI (pI (pI q60.2 11 0 (gI q60.2 21 0 0).toNatClampNeg a1) 12 0 (gI (pI q60.2 11 0 (gI q60.2 21 0 0).toNatClampNeg a1) 21 0 0).toNatClampNeg a2) 13 0 (gI (pI (pI q60.2 11 0 (gI q60.2 21 0 0).toNatClampNeg a1) 12 0 (gI (pI q60.2 11 0 (gI q60.2 21 0 0).toNatClampNeg a1) 21 0 0).toNatClampNeg a2) 21 0 0).toNatClampNeg a3) 21 0 0).toNatClampNeg a4) 15 0 (gI (pI (pI (pI (pI q60.2 11 0 (gI q60.2 21 0 0).toNatClampNeg a1) 12 0 (gI (pI q60.2 11 0 (gI q60.2 21 0 0).toNatClampNeg a1) 21 0 0).toNatClampNeg a2) 13 0 (gI (pI (pI q60.2 11 0 (gI q60.2 21 0 0).toNatClampNeg a1) 12 0 (gI (pI q60.2 11 0 (gI q60.2 21 0 0).toNatClampNeg a1) 21 0 0).toNatClampNeg a2) 21 0 0).toNatClampNeg a3) 14 0 (gI (pI (pI (pI q60.2 11 0 (gI q60.2 21 0 0).toNatClampNeg a1) 12 0 (gI (pI q60.2 11 0 (gI q60.2 21 0 0).toNatClampNeg a1) 21 0 0).toNatClampNeg a2) 13 0 (gI (pI (pI q60.2 11 0 (gI q60.2 21 0 0).toNatClampNeg a1) 12 0 (gI (pI q60.2 11 0 (gI q60.2 21 0 0).toNatClampNeg a1) 21 0 0).toNatClampNeg a2) 21 0 0).toNatClampNeg a3) 21 0 0).toNatClampNeg a4) 21 0 0).toNatClampNeg a5) 21 0 0) + 1)) 21 0 0) - 1)) (fun q75 => some (((gI q75 21 0 0) - 1, q75))))))))) else bd (fX6_fails q60.2 2) (fun q76 => some ((q76.1, q76.2))))) else some ((0, q60.2))) else bd (fX6_asks σ 1) (fun q77 => if ¬ q77.1 = 0 then gd (vin a1 5) (if ¬ (gI q77.2 10 0 a1.toNatClampNeg) = 0 then bd (fX6_fails q77.2 2) (fun q81 => some ((q81.1, q81.2))) else gd (vin a2 3) (if ¬ (gI q77.2 16 0 a2.toNatClampNeg) = 0 then bd (fX6_fails q77.2 2) (fun q84 => some ((q84.1, q84.2))) else if ¬ (gI q77.2 21 0 0) = 100 then gd (vin (gI q77.2 21 0 0) 100) (gd (vin (gI (pI q77.2 11 0 (gI q77.2 21 0 0).toNatClampNeg a1) 21 0 0) 100) (gd (vin (gI (pI (pI q77.2 11 0 (gI q77.2 21 0 0).toNatClampNeg a1) 12 0 (gI (pI q77.2 11 0 (gI q77.2 21 0 0).toNatClampNeg a1) 21 0 0).toNatClampNeg a2) 21 0 0) 100) (gd (bz a3) (gd (vin (gI (pI (pI (pI q77.2 11 0 (gI q77.2 21 0 0).toNatClampNeg a1) 12 0 (gI (pI q77.2 11 0 (gI q77.2 21 0 0).toNatClampNeg a1) 21 0 0).toNatClampNeg a2) 13 0 (gI (pI (pI q77.2 11 0 (gI q77.2 21 0 0).toNatClampNeg a1) 12 0 (gI (pI q77.2 11 0 (gI q77.2 21 0 0).toNatClampNeg a1) 21 0 0).toNatClampNeg a2) 21 0 0).toNatClampNeg a3) 21 0 0) 100) (gd (vin (gI (pI (pI (pI (pI q77.2 11 0 (gI q77.2 21 0 0).toNatClampNeg a1) 12 0 (gI (pI q77.2 11 0 (gI q77.2 21 0 0).toNatClampNeg a1) 21 0 0).toNatClampNeg a2) 13 0 (gI (pI (pI q77.2 11 0 (gI q77.2 21 0 0).toNatClampNeg a1) 12 0 (gI (pI q77.2 11 0 (gI q77.2 21 0 0).toNatClampNeg a1) 21 0 0).toNatClampNeg a2) 21 0 0).toNatClampNeg a3) 14 0 (gI (pI (pI (pI q77.2 11 0 (gI q77.2 21 0 0).toNatClampNeg a1) 12 0 (gI (pI q77.2 11 0 (gI q77.2 21 0 0).toNatClampNeg a1) 21 0 0).toNatClampNeg a2) 13 0 (gI (pI (pI q77.2 11 0 (gI q77.2 21 0 0).toNatClampNeg a1) 12 0 (gI (pI q77.2 11 0 (gI q77.2 21 0 0).toNatClampNeg a1) 21 0 0).toNatClampNeg a2) 21 0 0).toNatClampNeg a3) 21 0 0).toNatClampNeg a4) 21 0 0) 100) (bd (fX6_matches (pI (pI (pI (pI (pI (pI q77.2 11 0 (gI q77.2 21 0 0).toNatClampNeg a1) 12 0 (gI (pI q77.2 11 0 (gI q77.2 21 0 0).toNatClampNeg a1) 21 0 0).toNatClampNeg a2) 13 0 (gI (pI (pI q77.2 11 0 (gI q77.2 21 0 0).toNatClampNeg a1) 12 0 (gI (pI q77.2 11 0 (gI q77.2 21 0 0).toNatClampNeg a1) 21 0 0).toNatClampNeg a2) 21 0 0).toNatClampNeg a3) 14 0 (gI (pI (pI (pI q77.2 11 0 (gI q77.2 21 0 0).toNatClampNeg a1) 12 0 (gI (pI q77.2 11 0 (gI q77.2 21 0 0).toNatClampNeg a1) 21 0 0).toNatClampNeg a2) 13 0 (gI (pI (pI q77.2 11 0 (gI q77.2 21 0 0).toNatClampNeg a1) 12 0 (gI (pI q77.2 11 0 (gI q77.2 21 0 0).toNatClampNeg a1) 21 0 0).toNatClampNeg a2) 21 0 0).toNatClampNeg a3) 21 0 0).toNatClampNeg a4) 15 0 (gI (pI (pI (pI (pI q77.2 11 0 (gI q77.2 21 0 0).toNatClampNeg a1) 12 0 (gI (pI q77.2 11 0 (gI q77.2 21 0 0).toNatClampNeg a1) 21 0 0).toNatClampNeg a2) 13 0 (gI (pI (pI q77.2 11 0 (gI q77.2 21 0 0).toNatClampNeg a1) 12 0 (gI (pI q77.2 11 0 (gI q77.2 21 0 0).toNatClampNeg a1) 21 0 0).toNatClampNeg a2) 21 0 0).toNatClampNeg a3) 14 0 (gI (pI (pI (pI q77.2 11 0 (gI q77.2 21 0 0).toNatClampNeg a1) 12 0 (gI (pI q77.2 11 0 (gI q77.2 21 0 0).toNatClampNeg a1) 21 0 0).toNatClampNeg a2) 13 0 (gI (pI (pI q77.2 11 0 (gI q77.2 21 0 0).toNatClampNeg a1) 12 0 (gI (pI q77.2 11 0 (gI q77.2 21 0 0).toNatClampNeg a1) 21 0 0).toNatClampNeg a2) 21 0 0).toNatClampNeg a3) 21 0 0).toNatClampNeg a4) 21 0 0).toNatClampNeg a5) 21 0 0 ((gI (pI (pI (pI (pI (pI q77.2 11 0 (gI q77.2 21 0 0).toNatClampNeg a1) 12 0 (gI (pI q77.2 11 0 (gI q77.2 21 0 0).toNatClampNeg a1) 21 0 0).toNatClampNeg a2) 13 0 (gI (pI (pI q77.2 11 0 (gI q77.2 21 0 0).toNatClampNeg a1) 12 0 (gI (pI q77.2 11 0 (gI q77.2 21 0 0).toNatClampNeg a1) 21 0 0).toNatClampNeg a2) 21 0 0).toNatClampNeg a3) 14 0 (gI (pI (pI (pI q77.2 11 0 (gI q77.2 21 0 0).toNatClampNeg a1) 12 0 (gI (pI q77.2 11 0 (gI q77.2 21 0 0).toNatClampNeg a1) 21 0 0).toNatClampNeg a2) 13 0 (gI (pI (pI q77.2 11 0 (gI q77.2 21 0 0).toNatClampNeg a1) 12 0 (gI (pI q77.2 11 0 (gI q77.2 21 0 0).toNatClampNeg a1) 21 0 0).toNatClampNeg a2) 21 0 0).toNatClampNeg a3) 21 0 0).toNatClampNeg a4) 15 0 (gI (pI (pI (pI (pI q77.2 11 0 (gI q77.2 21 0 0).toNatClampNeg a1) 12 0 (gI (pI q77.2 11 0 (gI q77.2 21 0 0).toNatClampNeg a1) 21 0 0).toNatClampNeg a2) 13 0 (gI (pI (pI q77.2 11 0 (gI q77.2 21 0 0).toNatClampNeg a1) 12 0 (gI (pI q77.2 11 0 (gI q77.2 21 0 0).toNatClampNeg a1) 21 0 0).toNatClampNeg a2) 21 0 0).toNatClampNeg a3) 14 0 (gI (pI (pI (pI q77.2 11 0 (gI q77.2 21 0 0).toNatClampNeg a1) 12 0 (gI (pI q77.2 11 0 (gI q77.2 21 0 0).toNatClampNeg a1) 21 0 0).toNatClampNeg a2) 13 0 (gI (pI (pI q77.2 11 0 (gI q77.2 21 0 0).toNatClampNeg a1) 12 0 (gI (pI q77.2 11 0 (gI q77.2 21 0 0).toNatClampNeg a1) 21 0 0).toNatClampNeg a2) 21 0 0).toNatClampNeg a3) 21 0 0).toNatClampNeg a4) 21 0 0).toNatClampNeg a5) 21 0 0) + 1)) ((gI (pI (pI (pI (pI (pI (pI q77.2 11 0 (gI q77.2 21 0 0).toNatClampNeg a1) 12 0 (gI (pI q77.2 11 0 (gI q77.2 21 0 0).toNatClampNeg a1) 21 0 0).toNatClampNeg a2) 13 0 (gI (pI (pI q77.2 11 0 (gI q77.2 21 0 0).toNatClampNeg a1) 12 0 (gI (pI q77.2 11 0 (gI q77.2 21 0 0).toNatClampNeg a1) 21 0 0).toNatClampNeg a2) 21 0 0).toNatClampNeg a3) 14 0 (gI (pI (pI (pI q77.2 11 0 (gI q77.2 21 0 0).toNatClampNeg a1) 12 0 (gI (pI q77.2 11 0 (gI q77.2 21 0 0).toNatClampNeg a1) 21 0 0).toNatClampNeg a2) 13 0 (gI (pI (pI q77.2 11 0 (gI q77.2 21 0 0).toNatClampNeg a1) 12 0 (gI (pI q77.2 11 0 (gI q77.2 21 0 0).toNatClampNeg a1) 21 0 0).toNatClampNeg a2) 21 0 0).toNatClampNeg a3) 21 0 0).toNatClampNeg a4) 15 0 (gI (pI (pI (pI (pI q77.2 11 0 (gI q77.2 21 0 0).toNatClampNeg a1) 12 0 (gI (pI q77.2 11 0 (gI q77.2 21 0 0).toNatClampNeg a1) 21 0 0).toNatClampNeg a2) 13 0 (gI (pI (pI q77.2 11 0 (gI q77.2 21 0 0).toNatClampNeg a1) 12 0 (gI (pI q77.2 11 0 (gI q77.2 21 0 0).toNatClampNeg a1) 21 0 0).toNatClampNeg a2) 21 0 0).toNatClampNeg a3) 14 0 (gI (pI (pI (pI q77.2 11 0 (gI q77.2 21 0 0).toNatClampNeg a1) 12 0 (gI (pI q77.2 11 0 (gI q77.2 21 0 0).toNatClampNeg a1) 21 0 0).toNatClampNeg a2) 13 0 (gI (pI (pI q77.2 11 0 (gI q77.2 21 0 0).toNatClampNeg a1) 12 0 (gI (pI q77.2 11 0 (gI q77.2 21 0 0).toNatClampNeg a1) 21 0 0).toNatClampNeg a2) 21 0 0).toNatClampNeg a3) 21 0 0).toNatClampNeg a4) 21 0 0).toNatClampNeg a5) 21 0 0 ((gI (pI (pI (pI (pI (pI q77.2 11 0 (gI q77.2 21 0 0).toNatClampNeg a1) 12 0 (gI (pI q77.2 11 0 (gI q77.2 21 0 0).toNatClampNeg a1) 21 0 0).toNatClampNeg a2) 13 0 (gI (pI (pI q77.2 11 0 (gI q77.2 21 0 0).toNatClampNeg a1) 12 0 (gI (pI q77.2 11 0 (gI q77.2 21 0 0).toNatClampNeg a1) 21 0 0).toNatClampNeg a2) 21 0 0).toNatClampNeg a3) 14 0 (gI (pI (pI (pI q77.2 11 0 (gI q77.2 21 0 0).toNatClampNeg a1) 12 0 (gI (pI q77.2 11 0 (gI q77.2 21 0 0).toNatClampNeg a1) 21 0 0).toNatClampNeg a2) 13 0 (gI (pI (pI q77.2 11 0 (gI q77.2 21 0 0).toNatClampNeg a1) 12 0 (gI (pI q77.2 11 0 (gI q77.2 21 0 0).toNatClampNeg a1) 21 0 0).toNatClampNeg a2) 21 0 0).toNatClampNeg a3) 21 0 0).toNatClampNeg a4) 15 0 (gI (pI (pI (pI (pI q77.2 11 0 (gI q77.2 21 0 0).toNatClampNeg a1) 12 0 (gI (pI q77.2 11 0 (gI q77.2 21 0 0).toNatClampNeg a1) 21 0 0).toNatClampNeg a2) 13 0 (gI (pI (pI q77.2 11 0 (gI q77.2 21 0 0).toNatClampNeg a1) 12 0 (gI (pI q77.2 11 0 (gI q77.2 21 0 0).toNatClampNeg a1) 21 0 0).toNatClampNeg a2) 21 0 0).toNatClampNeg a3) 14 0 (gI (pI (pI (pI q77.2 11 0 (gI q77.2 21 0 0).toNatClampNeg a1) 12 0 (gI (pI q77.2 11 0 (gI q77.2 21 0 0).toNatClampNeg a1) 21 0 0).toNatClampNeg a2) 13 0 (gI (pI (pI q77.2 11 0 (gI q77.2 21 0 0).toNatClampNeg a1) 12 0 (gI (pI q77.2 11 0 (gI q77.2 21 0 0).toNatClampNeg a1) 21 0 0).toNatClampNeg a2) 21 0 0).toNatClampNeg a3) 21 0 0).toNatClampNeg a4) 21 0 0).toNatClampNeg a5) 21 0 0) + 1)) 21 0 0) - 1)) (fun q92 => some (((gI q92 21 0 0) - 1, q92))))))))) else bd (fX6_fails q77.2 2) (fun q93 => some ((q93.1, q93.2))))) else some ((0, q77.2)))))))
set_option maxHeartbeats 4000000 in
set_option maxRecDepth 100000 in
theorem mX6_place (l : Launch) (D : va_G) (dA : Nat → ClassId) (ad : Nat → Nat → Nat) (σ : St) (sz : Nat) (a1 : Int32) (a2 : Int32) (a3 : Int32) (a4 : Int32) (a5 : Int32) (r : Int32) (σ' : St) (hf : fX6_place σ a1 a2 a3 a4 a5 = some (r, σ')) : Met l yX6_place (WSy yX6_place cX6_place 6 (some .int)) ({ frames := 2, cells := 0, slots := 0, locals := 50 } : Room) (va_Pc [.ref (ad 0 0), .int a1, .int a2, .int a3, .int a4, .int a5] (fun U => U.heap.size = sz ∧ HM D dA (fun _ => True) ad σ U.heap ∧ KS D dA U)) (va_Qi (fun (x : Int32) (_ : Unit) => x = r) (fun _ t => HM D dA (WA ad (cvM σ) sz) ad σ' t.heap) (WA ad (cvM σ) sz)) 0 0 (WA ad (cvM σ) sz) := by
  refine met_of (by decide) (Nat.le_of_ble_eq_true rfl) ?_
  intro p e s m below meth c ls hC hB hl
  obtain ⟨rfl, hR, hK⟩ := hB
  have hA : ∀ q : Nat, s.heap.size ≤ q → WA ad (cvM σ) s.heap.size q := fun q h => Or.inr h
  have hR := WW_fit (B := WA ad (cvM σ) s.heap.size) hR (fun f i h => WA_in h)
  have hS : va_S (WA ad (cvM σ) s.heap.size) s.heap s.heap [] := va_S.rf
  generalize WA ad (cvM σ) s.heap.size = A0 at hA hR hS ⊢
  have hC : CTX p s m _ meth c cX6_place 6 RX6 (some .int) := hC
  obtain ⟨hx, hb, hml, hown, hts, hr, hlk⟩ := id hC
  have hl : lv_has ls 6 [(0, .ref (ad 0 0)), (1, .int a1), (2, .int a2), (3, .int a3), (4, .int a4), (5, .int a5)] := hl
  unfold fX6_place at hf
  refine lv_aload_n hx hb dX6_place_0 rfl (lv_at hl 0 rfl) ?_
  refine lv_iload_n hx hb dX6_place_1 rfl (lv_at hl 1 rfl) ?_
  obtain ⟨q1, hcq1, hf⟩ := bd_of hf
  refine kc_i (va_runS (As := [.int a1]) (rest := [.ref (ad 0 0)]) ⟨hx, hb, hml, hown, hts⟩ (mX6_isMember l D dA ad σ _ a1 q1 hcq1) (va_cwS 1 hts gX6_109 rfl rfl rfl (by decide +kernel) ⟨Nat.le_of_ble_eq_true rfl, Nat.le_of_ble_eq_true rfl⟩) (preS_of hR hK _) rfl rfl hl.1 rfl (lv_room (Nat.le_of_ble_eq_true rfl)) dX6_place_2 ⟨Nat.zero_le _, Nat.zero_le _⟩) hA hR hS (fun H locs hR hS => ?_)
  refine lv_if_eq (tgt := 42) hx hb dX6_place_5 (by decide) (fun c2 => ?_) (fun c2 => ?_)
  · have hf := if_of_pos hf c2
    refine lv_iconst (v := 0) hx hb dX6_place_42 (by decide) ?_
    obtain ⟨q3, hcq3, hf⟩ := bd_of hf
    refine kc_i (va_runV (As := [.int 0]) (rest := []) ⟨hx, hb, hml, hown, hts⟩ (mX6_asks l D dA ad σ _ 0 q3.1 q3.2 hcq3) (cwV 1 hts gX6_78 rfl rfl rfl (by decide +kernel) ⟨Nat.le_of_ble_eq_true rfl, Nat.le_of_ble_eq_true rfl⟩) (preV_of hR hK (f := 0) (i := 0) rfl rfl rfl _) rfl rfl hl.1 rfl (lv_room (Nat.le_of_ble_eq_true rfl)) dX6_place_43 ⟨Nat.zero_le _, Nat.zero_le _⟩) hA hR hS (fun H locs hR hS => ?_)
    refine lv_if_ne (tgt := 51) hx hb dX6_place_46 (by decide) (fun c4 => ?_) (fun c4 => ?_)
    · have hf := if_of_pos hf c4
      refine lv_aload_n hx hb dX6_place_51 rfl (lv_at hl 0 rfl) ?_
      refine va_get (D := D) (ci := 7) (C := RX6) (T := TX6) (N := 22) hx hb hts iuX6 hown hK.1 (WW_one hR (f := 0) (i := 0) rfl) 0 rfl rfl 9 (by decide) (hts _ q_817) (fun _ h9 => h9) rfl dX6_place_52 ?_
      refine lv_iload_n hx hb dX6_place_55 rfl (lv_at hl 1 rfl) ?_
      obtain ⟨g5, hf⟩ := gd_of hf
      refine va_zald hx hb hK.1 (WW_one hR (f := 10) (i := 0) rfl) 0 2 rfl rfl g5 dX6_place_56 ?_
      refine lv_if_ne (tgt := 78) hx hb dX6_place_57 (by decide) (fun c6 => ?_) (fun c6 => ?_)
      · have hf := if_of_pos hf c6
        refine lv_aload_n hx hb dX6_place_78 rfl (lv_at hl 0 rfl) ?_
        refine lv_iconst (v := 2) hx hb dX6_place_79 (by decide) ?_
        obtain ⟨q7, hcq7, hf⟩ := bd_of hf
        refine kc_i (va_runV (As := [.int 2]) (rest := []) ⟨hx, hb, hml, hown, hts⟩ (mX6_fails l D dA ad q3.2 _ 2 q7.1 q7.2 hcq7) (cwV 1 hts gX6_117 rfl rfl rfl (by decide +kernel) ⟨Nat.le_of_ble_eq_true rfl, Nat.le_of_ble_eq_true rfl⟩) (preV_of hR hK (f := 0) (i := 0) rfl rfl rfl _) rfl rfl hl.1 rfl (lv_room (Nat.le_of_ble_eq_true rfl)) dX6_place_80 ⟨Nat.zero_le _, Nat.zero_le _⟩) hA hR hS (fun H locs hR hS => ?_)
        cases hf
        exact ret_i hC hR hS dX6_place_83
      · have hf := if_of_neg hf (fun q => q c6)
        refine lv_aload_n hx hb dX6_place_60 rfl (lv_at hl 0 rfl) ?_
        refine va_get (D := D) (ci := 7) (C := RX6) (T := TX6) (N := 22) hx hb hts iuX6 hown hK.1 (WW_one hR (f := 0) (i := 0) rfl) 0 rfl rfl 17 (by decide) (hts _ q_825) (fun _ h9 => h9) rfl dX6_place_61 ?_
        refine lv_iload_n hx hb dX6_place_64 rfl (lv_at hl 2 rfl) ?_
        obtain ⟨g8, hf⟩ := gd_of hf
        refine va_zald hx hb hK.1 (WW_one hR (f := 16) (i := 0) rfl) 0 2 rfl rfl g8 dX6_place_65 ?_
        refine lv_if_ne (tgt := 78) hx hb dX6_place_66 (by decide) (fun c9 => ?_) (fun c9 => ?_)
        · have hf := if_of_pos hf c9
          refine lv_aload_n hx hb dX6_place_78 rfl (lv_at hl 0 rfl) ?_
          refine lv_iconst (v := 2) hx hb dX6_place_79 (by decide) ?_
          obtain ⟨q10, hcq10, hf⟩ := bd_of hf
          refine kc_i (va_runV (As := [.int 2]) (rest := []) ⟨hx, hb, hml, hown, hts⟩ (mX6_fails l D dA ad q3.2 _ 2 q10.1 q10.2 hcq10) (cwV 1 hts gX6_117 rfl rfl rfl (by decide +kernel) ⟨Nat.le_of_ble_eq_true rfl, Nat.le_of_ble_eq_true rfl⟩) (preV_of hR hK (f := 0) (i := 0) rfl rfl rfl _) rfl rfl hl.1 rfl (lv_room (Nat.le_of_ble_eq_true rfl)) dX6_place_80 ⟨Nat.zero_le _, Nat.zero_le _⟩) hA hR hS (fun H locs hR hS => ?_)
          cases hf
          exact ret_i hC hR hS dX6_place_83
        · have hf := if_of_neg hf (fun q => q c9)
          refine lv_aload_n hx hb dX6_place_69 rfl (lv_at hl 0 rfl) ?_
          refine va_get (D := D) (ci := 7) (C := RX6) (T := TX6) (N := 22) hx hb hts iuX6 hown hK.1 (WW_one hR (f := 0) (i := 0) rfl) 0 rfl rfl 11 (by decide) (hts _ q_819) (fun _ h9 => h9) rfl dX6_place_70 ?_
          refine lv_bipush (v := 100) hx hb dX6_place_73 (by decide) ?_
          refine lv_icmp_ne (tgt := 84) hx hb dX6_place_75 (by decide) (fun c11 => ?_) (fun c11 => ?_)
          · have hf := if_of_pos hf c11
            refine lv_aload_n hx hb dX6_place_84 rfl (lv_at hl 0 rfl) ?_
            refine va_get (D := D) (ci := 7) (C := RX6) (T := TX6) (N := 22) hx hb hts iuX6 hown hK.1 (WW_one hR (f := 0) (i := 0) rfl) 0 rfl rfl 12 (by decide) (hts _ q_820) (fun _ h9 => h9) rfl dX6_place_85 ?_
            refine lv_aload_n hx hb dX6_place_88 rfl (lv_at hl 0 rfl) ?_
            refine va_get (D := D) (ci := 7) (C := RX6) (T := TX6) (N := 22) hx hb hts iuX6 hown hK.1 (WW_one hR (f := 0) (i := 0) rfl) 0 rfl rfl 11 (by decide) (hts _ q_819) (fun _ h9 => h9) rfl dX6_place_89 ?_
            refine lv_iload_n hx hb dX6_place_92 rfl (lv_at hl 1 rfl) ?_
            obtain ⟨g12, hf⟩ := gd_of hf
            refine ww_iast hx hb hK.1 hR hS 0 (f := 11) (j := 0) rfl rfl rfl g12 dX6_place_93 (fun H locs hR hS => ?_)
            have hR := HM_row11 0 ((gI q3.2 21 0 0).toNatClampNeg) a1 hR
            refine lv_aload_n hx hb dX6_place_94 rfl (lv_at hl 0 rfl) ?_
            refine va_get (D := D) (ci := 7) (C := RX6) (T := TX6) (N := 22) hx hb hts iuX6 hown hK.1 (WW_one hR (f := 0) (i := 0) rfl) 0 rfl rfl 13 (by decide) (hts _ q_821) (fun _ h9 => h9) rfl dX6_place_95 ?_
            refine lv_aload_n hx hb dX6_place_98 rfl (lv_at hl 0 rfl) ?_
            refine va_get (D := D) (ci := 7) (C := RX6) (T := TX6) (N := 22) hx hb hts iuX6 hown hK.1 (WW_one hR (f := 0) (i := 0) rfl) 0 rfl rfl 11 (by decide) (hts _ q_819) (fun _ h9 => h9) rfl dX6_place_99 ?_
            refine lv_iload_n hx hb dX6_place_102 rfl (lv_at hl 2 rfl) ?_
            obtain ⟨g13, hf⟩ := gd_of hf
            refine ww_iast hx hb hK.1 hR hS 0 (f := 12) (j := 0) rfl rfl rfl g13 dX6_place_103 (fun H locs hR hS => ?_)
            have hR := HM_row12 0 ((gI (pI q3.2 11 0 (gI q3.2 21 0 0).toNatClampNeg a1) 21 0 0).toNatClampNeg) a2 hR
            refine lv_aload_n hx hb dX6_place_104 rfl (lv_at hl 0 rfl) ?_
            refine va_get (D := D) (ci := 7) (C := RX6) (T := TX6) (N := 22) hx hb hts iuX6 hown hK.1 (WW_one hR (f := 0) (i := 0) rfl) 0 rfl rfl 14 (by decide) (hts _ q_822) (fun _ h9 => h9) rfl dX6_place_105 ?_
            refine lv_aload_n hx hb dX6_place_108 rfl (lv_at hl 0 rfl) ?_
            refine va_get (D := D) (ci := 7) (C := RX6) (T := TX6) (N := 22) hx hb hts iuX6 hown hK.1 (WW_one hR (f := 0) (i := 0) rfl) 0 rfl rfl 11 (by decide) (hts _ q_819) (fun _ h9 => h9) rfl dX6_place_109 ?_
            refine lv_iload_n hx hb dX6_place_112 rfl (lv_at hl 3 rfl) ?_
            obtain ⟨g14, hf⟩ := gd_of hf
            obtain ⟨g15, hf⟩ := gd_of hf
            refine ww_zast hx hb hK.1 hR hS 2 (f := 13) (j := 0) rfl rfl rfl (bz_vp g15) g14 dX6_place_113 (fun H locs hR hS => ?_)
            have hR := HM_row13 0 ((gI (pI (pI q3.2 11 0 (gI q3.2 21 0 0).toNatClampNeg a1) 12 0 (gI (pI q3.2 11 0 (gI q3.2 21 0 0).toNatClampNeg a1) 21 0 0).toNatClampNeg a2) 21 0 0).toNatClampNeg) a3 hR
            refine lv_aload_n hx hb dX6_place_114 rfl (lv_at hl 0 rfl) ?_
            refine va_get (D := D) (ci := 7) (C := RX6) (T := TX6) (N := 22) hx hb hts iuX6 hown hK.1 (WW_one hR (f := 0) (i := 0) rfl) 0 rfl rfl 15 (by decide) (hts _ q_823) (fun _ h9 => h9) rfl dX6_place_115 ?_
            refine lv_aload_n hx hb dX6_place_118 rfl (lv_at hl 0 rfl) ?_
            refine va_get (D := D) (ci := 7) (C := RX6) (T := TX6) (N := 22) hx hb hts iuX6 hown hK.1 (WW_one hR (f := 0) (i := 0) rfl) 0 rfl rfl 11 (by decide) (hts _ q_819) (fun _ h9 => h9) rfl dX6_place_119 ?_
            refine lv_iload hx hb dX6_place_122 (lv_at hl 4 rfl) ?_
            obtain ⟨g16, hf⟩ := gd_of hf
            refine ww_iast hx hb hK.1 hR hS 0 (f := 14) (j := 0) rfl rfl rfl g16 dX6_place_124 (fun H locs hR hS => ?_)
            have hR := HM_row14 0 ((gI (pI (pI (pI q3.2 11 0 (gI q3.2 21 0 0).toNatClampNeg a1) 12 0 (gI (pI q3.2 11 0 (gI q3.2 21 0 0).toNatClampNeg a1) 21 0 0).toNatClampNeg a2) 13 0 (gI (pI (pI q3.2 11 0 (gI q3.2 21 0 0).toNatClampNeg a1) 12 0 (gI (pI q3.2 11 0 (gI q3.2 21 0 0).toNatClampNeg a1) 21 0 0).toNatClampNeg a2) 21 0 0).toNatClampNeg a3) 21 0 0).toNatClampNeg) a4 hR
            refine lv_aload_n hx hb dX6_place_125 rfl (lv_at hl 0 rfl) ?_
            refine va_get (D := D) (ci := 7) (C := RX6) (T := TX6) (N := 22) hx hb hts iuX6 hown hK.1 (WW_one hR (f := 0) (i := 0) rfl) 0 rfl rfl 16 (by decide) (hts _ q_824) (fun _ h9 => h9) rfl dX6_place_126 ?_
            refine lv_aload_n hx hb dX6_place_129 rfl (lv_at hl 0 rfl) ?_
            refine va_get (D := D) (ci := 7) (C := RX6) (T := TX6) (N := 22) hx hb hts iuX6 hown hK.1 (WW_one hR (f := 0) (i := 0) rfl) 0 rfl rfl 11 (by decide) (hts _ q_819) (fun _ h9 => h9) rfl dX6_place_130 ?_
            refine lv_iload hx hb dX6_place_133 (lv_at hl 5 rfl) ?_
            obtain ⟨g17, hf⟩ := gd_of hf
            refine ww_iast hx hb hK.1 hR hS 0 (f := 15) (j := 0) rfl rfl rfl g17 dX6_place_135 (fun H locs hR hS => ?_)
            have hR := HM_row15 0 ((gI (pI (pI (pI (pI q3.2 11 0 (gI q3.2 21 0 0).toNatClampNeg a1) 12 0 (gI (pI q3.2 11 0 (gI q3.2 21 0 0).toNatClampNeg a1) 21 0 0).toNatClampNeg a2) 13 0 (gI (pI (pI q3.2 11 0 (gI q3.2 21 0 0).toNatClampNeg a1) 12 0 (gI (pI q3.2 11 0 (gI q3.2 21 0 0).toNatClampNeg a1) 21 0 0).toNatClampNeg a2) 21 0 0).toNatClampNeg a3) 14 0 (gI (pI (pI (pI q3.2 11 0 (gI q3.2 21 0 0).toNatClampNeg a1) 12 0 (gI (pI q3.2 11 0 (gI q3.2 21 0 0).toNatClampNeg a1) 21 0 0).toNatClampNeg a2) 13 0 (gI (pI (pI q3.2 11 0 (gI q3.2 21 0 0).toNatClampNeg a1) 12 0 (gI (pI q3.2 11 0 (gI q3.2 21 0 0).toNatClampNeg a1) 21 0 0).toNatClampNeg a2) 21 0 0).toNatClampNeg a3) 21 0 0).toNatClampNeg a4) 21 0 0).toNatClampNeg) a5 hR
            refine lv_aload_n hx hb dX6_place_136 rfl (lv_at hl 0 rfl) ?_
            refine lv_dup hx hb dX6_place_137 rfl ?_
            refine va_get (D := D) (ci := 7) (C := RX6) (T := TX6) (N := 22) hx hb hts iuX6 hown hK.1 (WW_one hR (f := 0) (i := 0) rfl) 0 rfl rfl 11 (by decide) (hts _ q_819) (fun _ h9 => h9) rfl dX6_place_138 ?_
            refine lv_iconst (v := 1) hx hb dX6_place_141 (by decide) ?_
            refine lv_iadd hx hb dX6_place_142 ?_
            refine ww_put (D := D) (ci := 7) (C := RX6) (T := TX6) (N := 22) (ty := .int) hx hb hts iuX6 tyX6 tyX6_ok nmX6 hown hK.1 hR hS (f := 0) (i := 0) rfl rfl rfl 11 (by decide) (hts _ q_819) (fun _ h9 => h9) rfl (by decide +kernel) rfl rfl (Nat.le_of_ble_eq_true rfl) dX6_place_143 (fun H locs hR hS => ?_)
            have hR := HM_model_placed 0 ((gI (pI (pI (pI (pI (pI q3.2 11 0 (gI q3.2 21 0 0).toNatClampNeg a1) 12 0 (gI (pI q3.2 11 0 (gI q3.2 21 0 0).toNatClampNeg a1) 21 0 0).toNatClampNeg a2) 13 0 (gI (pI (pI q3.2 11 0 (gI q3.2 21 0 0).toNatClampNeg a1) 12 0 (gI (pI q3.2 11 0 (gI q3.2 21 0 0).toNatClampNeg a1) 21 0 0).toNatClampNeg a2) 21 0 0).toNatClampNeg a3) 14 0 (gI (pI (pI (pI q3.2 11 0 (gI q3.2 21 0 0).toNatClampNeg a1) 12 0 (gI (pI q3.2 11 0 (gI q3.2 21 0 0).toNatClampNeg a1) 21 0 0).toNatClampNeg a2) 13 0 (gI (pI (pI q3.2 11 0 (gI q3.2 21 0 0).toNatClampNeg a1) 12 0 (gI (pI q3.2 11 0 (gI q3.2 21 0 0).toNatClampNeg a1) 21 0 0).toNatClampNeg a2) 21 0 0).toNatClampNeg a3) 21 0 0).toNatClampNeg a4) 15 0 (gI (pI (pI (pI (pI q3.2 11 0 (gI q3.2 21 0 0).toNatClampNeg a1) 12 0 (gI (pI q3.2 11 0 (gI q3.2 21 0 0).toNatClampNeg a1) 21 0 0).toNatClampNeg a2) 13 0 (gI (pI (pI q3.2 11 0 (gI q3.2 21 0 0).toNatClampNeg a1) 12 0 (gI (pI q3.2 11 0 (gI q3.2 21 0 0).toNatClampNeg a1) 21 0 0).toNatClampNeg a2) 21 0 0).toNatClampNeg a3) 14 0 (gI (pI (pI (pI q3.2 11 0 (gI q3.2 21 0 0).toNatClampNeg a1) 12 0 (gI (pI q3.2 11 0 (gI q3.2 21 0 0).toNatClampNeg a1) 21 0 0).toNatClampNeg a2) 13 0 (gI (pI (pI q3.2 11 0 (gI q3.2 21 0 0).toNatClampNeg a1) 12 0 (gI (pI q3.2 11 0 (gI q3.2 21 0 0).toNatClampNeg a1) 21 0 0).toNatClampNeg a2) 21 0 0).toNatClampNeg a3) 21 0 0).toNatClampNeg a4) 21 0 0).toNatClampNeg a5) 21 0 0) + 1) hR
            refine lv_aload_n hx hb dX6_place_146 rfl (lv_at hl 0 rfl) ?_
            refine lv_aload_n hx hb dX6_place_147 rfl (lv_at hl 0 rfl) ?_
            refine va_get (D := D) (ci := 7) (C := RX6) (T := TX6) (N := 22) hx hb hts iuX6 hown hK.1 (WW_one hR (f := 0) (i := 0) rfl) 0 rfl rfl 11 (by decide) (hts _ q_819) (fun _ h9 => h9) rfl dX6_place_148 ?_
            refine lv_iconst (v := 1) hx hb dX6_place_151 (by decide) ?_
            refine lv_isub hx hb dX6_place_152 ?_
            obtain ⟨q18, hcq18, hf⟩ := bd_of hf
            refine kc_v (va_runV (As := [.int ((gI (pI (pI (pI (pI (pI (pI q3.2 11 0 (gI q3.2 21 0 0).toNatClampNeg a1) 12 0 (gI (pI q3.2 11 0 (gI q3.2 21 0 0).toNatClampNeg a1) 21 0 0).toNatClampNeg a2) 13 0 (gI (pI (pI q3.2 11 0 (gI q3.2 21 0 0).toNatClampNeg a1) 12 0 (gI (pI q3.2 11 0 (gI q3.2 21 0 0).toNatClampNeg a1) 21 0 0).toNatClampNeg a2) 21 0 0).toNatClampNeg a3) 14 0 (gI (pI (pI (pI q3.2 11 0 (gI q3.2 21 0 0).toNatClampNeg a1) 12 0 (gI (pI q3.2 11 0 (gI q3.2 21 0 0).toNatClampNeg a1) 21 0 0).toNatClampNeg a2) 13 0 (gI (pI (pI q3.2 11 0 (gI q3.2 21 0 0).toNatClampNeg a1) 12 0 (gI (pI q3.2 11 0 (gI q3.2 21 0 0).toNatClampNeg a1) 21 0 0).toNatClampNeg a2) 21 0 0).toNatClampNeg a3) 21 0 0).toNatClampNeg a4) 15 0 (gI (pI (pI (pI (pI q3.2 11 0 (gI q3.2 21 0 0).toNatClampNeg a1) 12 0 (gI (pI q3.2 11 0 (gI q3.2 21 0 0).toNatClampNeg a1) 21 0 0).toNatClampNeg a2) 13 0 (gI (pI (pI q3.2 11 0 (gI q3.2 21 0 0).toNatClampNeg a1) 12 0 (gI (pI q3.2 11 0 (gI q3.2 21 0 0).toNatClampNeg a1) 21 0 0).toNatClampNeg a2) 21 0 0).toNatClampNeg a3) 14 0 (gI (pI (pI (pI q3.2 11 0 (gI q3.2 21 0 0).toNatClampNeg a1) 12 0 (gI (pI q3.2 11 0 (gI q3.2 21 0 0).toNatClampNeg a1) 21 0 0).toNatClampNeg a2) 13 0 (gI (pI (pI q3.2 11 0 (gI q3.2 21 0 0).toNatClampNeg a1) 12 0 (gI (pI q3.2 11 0 (gI q3.2 21 0 0).toNatClampNeg a1) 21 0 0).toNatClampNeg a2) 21 0 0).toNatClampNeg a3) 21 0 0).toNatClampNeg a4) 21 0 0).toNatClampNeg a5) 21 0 0 ((gI (pI (pI (pI (pI (pI q3.2 11 0 (gI q3.2 21 0 0).toNatClampNeg a1) 12 0 (gI (pI q3.2 11 0 (gI q3.2 21 0 0).toNatClampNeg a1) 21 0 0).toNatClampNeg a2) 13 0 (gI (pI (pI q3.2 11 0 (gI q3.2 21 0 0).toNatClampNeg a1) 12 0 (gI (pI q3.2 11 0 (gI q3.2 21 0 0).toNatClampNeg a1) 21 0 0).toNatClampNeg a2) 21 0 0).toNatClampNeg a3) 14 0 (gI (pI (pI (pI q3.2 11 0 (gI q3.2 21 0 0).toNatClampNeg a1) 12 0 (gI (pI q3.2 11 0 (gI q3.2 21 0 0).toNatClampNeg a1) 21 0 0).toNatClampNeg a2) 13 0 (gI (pI (pI q3.2 11 0 (gI q3.2 21 0 0).toNatClampNeg a1) 12 0 (gI (pI q3.2 11 0 (gI q3.2 21 0 0).toNatClampNeg a1) 21 0 0).toNatClampNeg a2) 21 0 0).toNatClampNeg a3) 21 0 0).toNatClampNeg a4) 15 0 (gI (pI (pI (pI (pI q3.2 11 0 (gI q3.2 21 0 0).toNatClampNeg a1) 12 0 (gI (pI q3.2 11 0 (gI q3.2 21 0 0).toNatClampNeg a1) 21 0 0).toNatClampNeg a2) 13 0 (gI (pI (pI q3.2 11 0 (gI q3.2 21 0 0).toNatClampNeg a1) 12 0 (gI (pI q3.2 11 0 (gI q3.2 21 0 0).toNatClampNeg a1) 21 0 0).toNatClampNeg a2) 21 0 0).toNatClampNeg a3) 14 0 (gI (pI (pI (pI q3.2 11 0 (gI q3.2 21 0 0).toNatClampNeg a1) 12 0 (gI (pI q3.2 11 0 (gI q3.2 21 0 0).toNatClampNeg a1) 21 0 0).toNatClampNeg a2) 13 0 (gI (pI (pI q3.2 11 0 (gI q3.2 21 0 0).toNatClampNeg a1) 12 0 (gI (pI q3.2 11 0 (gI q3.2 21 0 0).toNatClampNeg a1) 21 0 0).toNatClampNeg a2) 21 0 0).toNatClampNeg a3) 21 0 0).toNatClampNeg a4) 21 0 0).toNatClampNeg a5) 21 0 0) + 1)) 21 0 0) - 1)]) (rest := []) ⟨hx, hb, hml, hown, hts⟩ (mX6_matches l D dA ad (pI (pI (pI (pI (pI (pI q3.2 11 0 (gI q3.2 21 0 0).toNatClampNeg a1) 12 0 (gI (pI q3.2 11 0 (gI q3.2 21 0 0).toNatClampNeg a1) 21 0 0).toNatClampNeg a2) 13 0 (gI (pI (pI q3.2 11 0 (gI q3.2 21 0 0).toNatClampNeg a1) 12 0 (gI (pI q3.2 11 0 (gI q3.2 21 0 0).toNatClampNeg a1) 21 0 0).toNatClampNeg a2) 21 0 0).toNatClampNeg a3) 14 0 (gI (pI (pI (pI q3.2 11 0 (gI q3.2 21 0 0).toNatClampNeg a1) 12 0 (gI (pI q3.2 11 0 (gI q3.2 21 0 0).toNatClampNeg a1) 21 0 0).toNatClampNeg a2) 13 0 (gI (pI (pI q3.2 11 0 (gI q3.2 21 0 0).toNatClampNeg a1) 12 0 (gI (pI q3.2 11 0 (gI q3.2 21 0 0).toNatClampNeg a1) 21 0 0).toNatClampNeg a2) 21 0 0).toNatClampNeg a3) 21 0 0).toNatClampNeg a4) 15 0 (gI (pI (pI (pI (pI q3.2 11 0 (gI q3.2 21 0 0).toNatClampNeg a1) 12 0 (gI (pI q3.2 11 0 (gI q3.2 21 0 0).toNatClampNeg a1) 21 0 0).toNatClampNeg a2) 13 0 (gI (pI (pI q3.2 11 0 (gI q3.2 21 0 0).toNatClampNeg a1) 12 0 (gI (pI q3.2 11 0 (gI q3.2 21 0 0).toNatClampNeg a1) 21 0 0).toNatClampNeg a2) 21 0 0).toNatClampNeg a3) 14 0 (gI (pI (pI (pI q3.2 11 0 (gI q3.2 21 0 0).toNatClampNeg a1) 12 0 (gI (pI q3.2 11 0 (gI q3.2 21 0 0).toNatClampNeg a1) 21 0 0).toNatClampNeg a2) 13 0 (gI (pI (pI q3.2 11 0 (gI q3.2 21 0 0).toNatClampNeg a1) 12 0 (gI (pI q3.2 11 0 (gI q3.2 21 0 0).toNatClampNeg a1) 21 0 0).toNatClampNeg a2) 21 0 0).toNatClampNeg a3) 21 0 0).toNatClampNeg a4) 21 0 0).toNatClampNeg a5) 21 0 0 ((gI (pI (pI (pI (pI (pI q3.2 11 0 (gI q3.2 21 0 0).toNatClampNeg a1) 12 0 (gI (pI q3.2 11 0 (gI q3.2 21 0 0).toNatClampNeg a1) 21 0 0).toNatClampNeg a2) 13 0 (gI (pI (pI q3.2 11 0 (gI q3.2 21 0 0).toNatClampNeg a1) 12 0 (gI (pI q3.2 11 0 (gI q3.2 21 0 0).toNatClampNeg a1) 21 0 0).toNatClampNeg a2) 21 0 0).toNatClampNeg a3) 14 0 (gI (pI (pI (pI q3.2 11 0 (gI q3.2 21 0 0).toNatClampNeg a1) 12 0 (gI (pI q3.2 11 0 (gI q3.2 21 0 0).toNatClampNeg a1) 21 0 0).toNatClampNeg a2) 13 0 (gI (pI (pI q3.2 11 0 (gI q3.2 21 0 0).toNatClampNeg a1) 12 0 (gI (pI q3.2 11 0 (gI q3.2 21 0 0).toNatClampNeg a1) 21 0 0).toNatClampNeg a2) 21 0 0).toNatClampNeg a3) 21 0 0).toNatClampNeg a4) 15 0 (gI (pI (pI (pI (pI q3.2 11 0 (gI q3.2 21 0 0).toNatClampNeg a1) 12 0 (gI (pI q3.2 11 0 (gI q3.2 21 0 0).toNatClampNeg a1) 21 0 0).toNatClampNeg a2) 13 0 (gI (pI (pI q3.2 11 0 (gI q3.2 21 0 0).toNatClampNeg a1) 12 0 (gI (pI q3.2 11 0 (gI q3.2 21 0 0).toNatClampNeg a1) 21 0 0).toNatClampNeg a2) 21 0 0).toNatClampNeg a3) 14 0 (gI (pI (pI (pI q3.2 11 0 (gI q3.2 21 0 0).toNatClampNeg a1) 12 0 (gI (pI q3.2 11 0 (gI q3.2 21 0 0).toNatClampNeg a1) 21 0 0).toNatClampNeg a2) 13 0 (gI (pI (pI q3.2 11 0 (gI q3.2 21 0 0).toNatClampNeg a1) 12 0 (gI (pI q3.2 11 0 (gI q3.2 21 0 0).toNatClampNeg a1) 21 0 0).toNatClampNeg a2) 21 0 0).toNatClampNeg a3) 21 0 0).toNatClampNeg a4) 21 0 0).toNatClampNeg a5) 21 0 0) + 1)) _ ((gI (pI (pI (pI (pI (pI (pI q3.2 11 0 (gI q3.2 21 0 0).toNatClampNeg a1) 12 0 (gI (pI q3.2 11 0 (gI q3.2 21 0 0).toNatClampNeg a1) 21 0 0).toNatClampNeg a2) 13 0 (gI (pI (pI q3.2 11 0 (gI q3.2 21 0 0).toNatClampNeg a1) 12 0 (gI (pI q3.2 11 0 (gI q3.2 21 0 0).toNatClampNeg a1) 21 0 0).toNatClampNeg a2) 21 0 0).toNatClampNeg a3) 14 0 (gI (pI (pI (pI q3.2 11 0 (gI q3.2 21 0 0).toNatClampNeg a1) 12 0 (gI (pI q3.2 11 0 (gI q3.2 21 0 0).toNatClampNeg a1) 21 0 0).toNatClampNeg a2) 13 0 (gI (pI (pI q3.2 11 0 (gI q3.2 21 0 0).toNatClampNeg a1) 12 0 (gI (pI q3.2 11 0 (gI q3.2 21 0 0).toNatClampNeg a1) 21 0 0).toNatClampNeg a2) 21 0 0).toNatClampNeg a3) 21 0 0).toNatClampNeg a4) 15 0 (gI (pI (pI (pI (pI q3.2 11 0 (gI q3.2 21 0 0).toNatClampNeg a1) 12 0 (gI (pI q3.2 11 0 (gI q3.2 21 0 0).toNatClampNeg a1) 21 0 0).toNatClampNeg a2) 13 0 (gI (pI (pI q3.2 11 0 (gI q3.2 21 0 0).toNatClampNeg a1) 12 0 (gI (pI q3.2 11 0 (gI q3.2 21 0 0).toNatClampNeg a1) 21 0 0).toNatClampNeg a2) 21 0 0).toNatClampNeg a3) 14 0 (gI (pI (pI (pI q3.2 11 0 (gI q3.2 21 0 0).toNatClampNeg a1) 12 0 (gI (pI q3.2 11 0 (gI q3.2 21 0 0).toNatClampNeg a1) 21 0 0).toNatClampNeg a2) 13 0 (gI (pI (pI q3.2 11 0 (gI q3.2 21 0 0).toNatClampNeg a1) 12 0 (gI (pI q3.2 11 0 (gI q3.2 21 0 0).toNatClampNeg a1) 21 0 0).toNatClampNeg a2) 21 0 0).toNatClampNeg a3) 21 0 0).toNatClampNeg a4) 21 0 0).toNatClampNeg a5) 21 0 0 ((gI (pI (pI (pI (pI (pI q3.2 11 0 (gI q3.2 21 0 0).toNatClampNeg a1) 12 0 (gI (pI q3.2 11 0 (gI q3.2 21 0 0).toNatClampNeg a1) 21 0 0).toNatClampNeg a2) 13 0 (gI (pI (pI q3.2 11 0 (gI q3.2 21 0 0).toNatClampNeg a1) 12 0 (gI (pI q3.2 11 0 (gI q3.2 21 0 0).toNatClampNeg a1) 21 0 0).toNatClampNeg a2) 21 0 0).toNatClampNeg a3) 14 0 (gI (pI (pI (pI q3.2 11 0 (gI q3.2 21 0 0).toNatClampNeg a1) 12 0 (gI (pI q3.2 11 0 (gI q3.2 21 0 0).toNatClampNeg a1) 21 0 0).toNatClampNeg a2) 13 0 (gI (pI (pI q3.2 11 0 (gI q3.2 21 0 0).toNatClampNeg a1) 12 0 (gI (pI q3.2 11 0 (gI q3.2 21 0 0).toNatClampNeg a1) 21 0 0).toNatClampNeg a2) 21 0 0).toNatClampNeg a3) 21 0 0).toNatClampNeg a4) 15 0 (gI (pI (pI (pI (pI q3.2 11 0 (gI q3.2 21 0 0).toNatClampNeg a1) 12 0 (gI (pI q3.2 11 0 (gI q3.2 21 0 0).toNatClampNeg a1) 21 0 0).toNatClampNeg a2) 13 0 (gI (pI (pI q3.2 11 0 (gI q3.2 21 0 0).toNatClampNeg a1) 12 0 (gI (pI q3.2 11 0 (gI q3.2 21 0 0).toNatClampNeg a1) 21 0 0).toNatClampNeg a2) 21 0 0).toNatClampNeg a3) 14 0 (gI (pI (pI (pI q3.2 11 0 (gI q3.2 21 0 0).toNatClampNeg a1) 12 0 (gI (pI q3.2 11 0 (gI q3.2 21 0 0).toNatClampNeg a1) 21 0 0).toNatClampNeg a2) 13 0 (gI (pI (pI q3.2 11 0 (gI q3.2 21 0 0).toNatClampNeg a1) 12 0 (gI (pI q3.2 11 0 (gI q3.2 21 0 0).toNatClampNeg a1) 21 0 0).toNatClampNeg a2) 21 0 0).toNatClampNeg a3) 21 0 0).toNatClampNeg a4) 21 0 0).toNatClampNeg a5) 21 0 0) + 1)) 21 0 0) - 1) q18 hcq18) (cwV 1 hts gX6_131 rfl rfl rfl (by decide +kernel) ⟨Nat.le_of_ble_eq_true rfl, Nat.le_of_ble_eq_true rfl⟩) (preV_of hR hK (f := 0) (i := 0) rfl rfl rfl _) rfl rfl hl.1 rfl (lv_room (Nat.le_of_ble_eq_true rfl)) dX6_place_153 ⟨Nat.zero_le _, Nat.zero_le _⟩) hA hR hS (fun H locs hR hS => ?_)
            refine lv_aload_n hx hb dX6_place_156 rfl (lv_at hl 0 rfl) ?_
            refine va_get (D := D) (ci := 7) (C := RX6) (T := TX6) (N := 22) hx hb hts iuX6 hown hK.1 (WW_one hR (f := 0) (i := 0) rfl) 0 rfl rfl 11 (by decide) (hts _ q_819) (fun _ h9 => h9) rfl dX6_place_157 ?_
            refine lv_iconst (v := 1) hx hb dX6_place_160 (by decide) ?_
            refine lv_isub hx hb dX6_place_161 ?_
            cases hf
            exact ret_i hC hR hS dX6_place_162
          · have hf := if_of_neg hf (fun q => q c11)
            refine lv_aload_n hx hb dX6_place_78 rfl (lv_at hl 0 rfl) ?_
            refine lv_iconst (v := 2) hx hb dX6_place_79 (by decide) ?_
            obtain ⟨q19, hcq19, hf⟩ := bd_of hf
            refine kc_i (va_runV (As := [.int 2]) (rest := []) ⟨hx, hb, hml, hown, hts⟩ (mX6_fails l D dA ad q3.2 _ 2 q19.1 q19.2 hcq19) (cwV 1 hts gX6_117 rfl rfl rfl (by decide +kernel) ⟨Nat.le_of_ble_eq_true rfl, Nat.le_of_ble_eq_true rfl⟩) (preV_of hR hK (f := 0) (i := 0) rfl rfl rfl _) rfl rfl hl.1 rfl (lv_room (Nat.le_of_ble_eq_true rfl)) dX6_place_80 ⟨Nat.zero_le _, Nat.zero_le _⟩) hA hR hS (fun H locs hR hS => ?_)
            cases hf
            exact ret_i hC hR hS dX6_place_83
    · have hf := if_of_neg hf (fun q => q c4)
      refine lv_iconst (v := 0) hx hb dX6_place_49 (by decide) ?_
      cases hf
      exact ret_i hC hR hS dX6_place_50
  · have hf := if_of_neg hf c2
    refine lv_iload_n hx hb dX6_place_8 rfl (lv_at hl 2 rfl) ?_
    obtain ⟨q20, hcq20, hf⟩ := bd_of hf
    refine kc_i (va_runS (As := [.int a2]) (rest := [.ref (ad 0 0)]) ⟨hx, hb, hml, hown, hts⟩ (mX6_isProduct l D dA ad σ _ a2 q20 hcq20) (va_cwS 1 hts gX6_70 rfl rfl rfl (by decide +kernel) ⟨Nat.le_of_ble_eq_true rfl, Nat.le_of_ble_eq_true rfl⟩) (preS_of hR hK _) rfl rfl hl.1 rfl (lv_room (Nat.le_of_ble_eq_true rfl)) dX6_place_9 ⟨Nat.zero_le _, Nat.zero_le _⟩) hA hR hS (fun H locs hR hS => ?_)
    refine lv_if_eq (tgt := 42) hx hb dX6_place_12 (by decide) (fun c21 => ?_) (fun c21 => ?_)
    · have hf := if_of_pos hf c21
      refine lv_iconst (v := 0) hx hb dX6_place_42 (by decide) ?_
      obtain ⟨q22, hcq22, hf⟩ := bd_of hf
      refine kc_i (va_runV (As := [.int 0]) (rest := []) ⟨hx, hb, hml, hown, hts⟩ (mX6_asks l D dA ad σ _ 0 q22.1 q22.2 hcq22) (cwV 1 hts gX6_78 rfl rfl rfl (by decide +kernel) ⟨Nat.le_of_ble_eq_true rfl, Nat.le_of_ble_eq_true rfl⟩) (preV_of hR hK (f := 0) (i := 0) rfl rfl rfl _) rfl rfl hl.1 rfl (lv_room (Nat.le_of_ble_eq_true rfl)) dX6_place_43 ⟨Nat.zero_le _, Nat.zero_le _⟩) hA hR hS (fun H locs hR hS => ?_)
      refine lv_if_ne (tgt := 51) hx hb dX6_place_46 (by decide) (fun c23 => ?_) (fun c23 => ?_)
      · have hf := if_of_pos hf c23
        refine lv_aload_n hx hb dX6_place_51 rfl (lv_at hl 0 rfl) ?_
        refine va_get (D := D) (ci := 7) (C := RX6) (T := TX6) (N := 22) hx hb hts iuX6 hown hK.1 (WW_one hR (f := 0) (i := 0) rfl) 0 rfl rfl 9 (by decide) (hts _ q_817) (fun _ h9 => h9) rfl dX6_place_52 ?_
        refine lv_iload_n hx hb dX6_place_55 rfl (lv_at hl 1 rfl) ?_
        obtain ⟨g24, hf⟩ := gd_of hf
        refine va_zald hx hb hK.1 (WW_one hR (f := 10) (i := 0) rfl) 0 2 rfl rfl g24 dX6_place_56 ?_
        refine lv_if_ne (tgt := 78) hx hb dX6_place_57 (by decide) (fun c25 => ?_) (fun c25 => ?_)
        · have hf := if_of_pos hf c25
          refine lv_aload_n hx hb dX6_place_78 rfl (lv_at hl 0 rfl) ?_
          refine lv_iconst (v := 2) hx hb dX6_place_79 (by decide) ?_
          obtain ⟨q26, hcq26, hf⟩ := bd_of hf
          refine kc_i (va_runV (As := [.int 2]) (rest := []) ⟨hx, hb, hml, hown, hts⟩ (mX6_fails l D dA ad q22.2 _ 2 q26.1 q26.2 hcq26) (cwV 1 hts gX6_117 rfl rfl rfl (by decide +kernel) ⟨Nat.le_of_ble_eq_true rfl, Nat.le_of_ble_eq_true rfl⟩) (preV_of hR hK (f := 0) (i := 0) rfl rfl rfl _) rfl rfl hl.1 rfl (lv_room (Nat.le_of_ble_eq_true rfl)) dX6_place_80 ⟨Nat.zero_le _, Nat.zero_le _⟩) hA hR hS (fun H locs hR hS => ?_)
          cases hf
          exact ret_i hC hR hS dX6_place_83
        · have hf := if_of_neg hf (fun q => q c25)
          refine lv_aload_n hx hb dX6_place_60 rfl (lv_at hl 0 rfl) ?_
          refine va_get (D := D) (ci := 7) (C := RX6) (T := TX6) (N := 22) hx hb hts iuX6 hown hK.1 (WW_one hR (f := 0) (i := 0) rfl) 0 rfl rfl 17 (by decide) (hts _ q_825) (fun _ h9 => h9) rfl dX6_place_61 ?_
          refine lv_iload_n hx hb dX6_place_64 rfl (lv_at hl 2 rfl) ?_
          obtain ⟨g27, hf⟩ := gd_of hf
          refine va_zald hx hb hK.1 (WW_one hR (f := 16) (i := 0) rfl) 0 2 rfl rfl g27 dX6_place_65 ?_
          refine lv_if_ne (tgt := 78) hx hb dX6_place_66 (by decide) (fun c28 => ?_) (fun c28 => ?_)
          · have hf := if_of_pos hf c28
            refine lv_aload_n hx hb dX6_place_78 rfl (lv_at hl 0 rfl) ?_
            refine lv_iconst (v := 2) hx hb dX6_place_79 (by decide) ?_
            obtain ⟨q29, hcq29, hf⟩ := bd_of hf
            refine kc_i (va_runV (As := [.int 2]) (rest := []) ⟨hx, hb, hml, hown, hts⟩ (mX6_fails l D dA ad q22.2 _ 2 q29.1 q29.2 hcq29) (cwV 1 hts gX6_117 rfl rfl rfl (by decide +kernel) ⟨Nat.le_of_ble_eq_true rfl, Nat.le_of_ble_eq_true rfl⟩) (preV_of hR hK (f := 0) (i := 0) rfl rfl rfl _) rfl rfl hl.1 rfl (lv_room (Nat.le_of_ble_eq_true rfl)) dX6_place_80 ⟨Nat.zero_le _, Nat.zero_le _⟩) hA hR hS (fun H locs hR hS => ?_)
            cases hf
            exact ret_i hC hR hS dX6_place_83
          · have hf := if_of_neg hf (fun q => q c28)
            refine lv_aload_n hx hb dX6_place_69 rfl (lv_at hl 0 rfl) ?_
            refine va_get (D := D) (ci := 7) (C := RX6) (T := TX6) (N := 22) hx hb hts iuX6 hown hK.1 (WW_one hR (f := 0) (i := 0) rfl) 0 rfl rfl 11 (by decide) (hts _ q_819) (fun _ h9 => h9) rfl dX6_place_70 ?_
            refine lv_bipush (v := 100) hx hb dX6_place_73 (by decide) ?_
            refine lv_icmp_ne (tgt := 84) hx hb dX6_place_75 (by decide) (fun c30 => ?_) (fun c30 => ?_)
            · have hf := if_of_pos hf c30
              refine lv_aload_n hx hb dX6_place_84 rfl (lv_at hl 0 rfl) ?_
              refine va_get (D := D) (ci := 7) (C := RX6) (T := TX6) (N := 22) hx hb hts iuX6 hown hK.1 (WW_one hR (f := 0) (i := 0) rfl) 0 rfl rfl 12 (by decide) (hts _ q_820) (fun _ h9 => h9) rfl dX6_place_85 ?_
              refine lv_aload_n hx hb dX6_place_88 rfl (lv_at hl 0 rfl) ?_
              refine va_get (D := D) (ci := 7) (C := RX6) (T := TX6) (N := 22) hx hb hts iuX6 hown hK.1 (WW_one hR (f := 0) (i := 0) rfl) 0 rfl rfl 11 (by decide) (hts _ q_819) (fun _ h9 => h9) rfl dX6_place_89 ?_
              refine lv_iload_n hx hb dX6_place_92 rfl (lv_at hl 1 rfl) ?_
              obtain ⟨g31, hf⟩ := gd_of hf
              refine ww_iast hx hb hK.1 hR hS 0 (f := 11) (j := 0) rfl rfl rfl g31 dX6_place_93 (fun H locs hR hS => ?_)
              have hR := HM_row11 0 ((gI q22.2 21 0 0).toNatClampNeg) a1 hR
              refine lv_aload_n hx hb dX6_place_94 rfl (lv_at hl 0 rfl) ?_
              refine va_get (D := D) (ci := 7) (C := RX6) (T := TX6) (N := 22) hx hb hts iuX6 hown hK.1 (WW_one hR (f := 0) (i := 0) rfl) 0 rfl rfl 13 (by decide) (hts _ q_821) (fun _ h9 => h9) rfl dX6_place_95 ?_
              refine lv_aload_n hx hb dX6_place_98 rfl (lv_at hl 0 rfl) ?_
              refine va_get (D := D) (ci := 7) (C := RX6) (T := TX6) (N := 22) hx hb hts iuX6 hown hK.1 (WW_one hR (f := 0) (i := 0) rfl) 0 rfl rfl 11 (by decide) (hts _ q_819) (fun _ h9 => h9) rfl dX6_place_99 ?_
              refine lv_iload_n hx hb dX6_place_102 rfl (lv_at hl 2 rfl) ?_
              obtain ⟨g32, hf⟩ := gd_of hf
              refine ww_iast hx hb hK.1 hR hS 0 (f := 12) (j := 0) rfl rfl rfl g32 dX6_place_103 (fun H locs hR hS => ?_)
              have hR := HM_row12 0 ((gI (pI q22.2 11 0 (gI q22.2 21 0 0).toNatClampNeg a1) 21 0 0).toNatClampNeg) a2 hR
              refine lv_aload_n hx hb dX6_place_104 rfl (lv_at hl 0 rfl) ?_
              refine va_get (D := D) (ci := 7) (C := RX6) (T := TX6) (N := 22) hx hb hts iuX6 hown hK.1 (WW_one hR (f := 0) (i := 0) rfl) 0 rfl rfl 14 (by decide) (hts _ q_822) (fun _ h9 => h9) rfl dX6_place_105 ?_
              refine lv_aload_n hx hb dX6_place_108 rfl (lv_at hl 0 rfl) ?_
              refine va_get (D := D) (ci := 7) (C := RX6) (T := TX6) (N := 22) hx hb hts iuX6 hown hK.1 (WW_one hR (f := 0) (i := 0) rfl) 0 rfl rfl 11 (by decide) (hts _ q_819) (fun _ h9 => h9) rfl dX6_place_109 ?_
              refine lv_iload_n hx hb dX6_place_112 rfl (lv_at hl 3 rfl) ?_
              obtain ⟨g33, hf⟩ := gd_of hf
              obtain ⟨g34, hf⟩ := gd_of hf
              refine ww_zast hx hb hK.1 hR hS 2 (f := 13) (j := 0) rfl rfl rfl (bz_vp g34) g33 dX6_place_113 (fun H locs hR hS => ?_)
              have hR := HM_row13 0 ((gI (pI (pI q22.2 11 0 (gI q22.2 21 0 0).toNatClampNeg a1) 12 0 (gI (pI q22.2 11 0 (gI q22.2 21 0 0).toNatClampNeg a1) 21 0 0).toNatClampNeg a2) 21 0 0).toNatClampNeg) a3 hR
              refine lv_aload_n hx hb dX6_place_114 rfl (lv_at hl 0 rfl) ?_
              refine va_get (D := D) (ci := 7) (C := RX6) (T := TX6) (N := 22) hx hb hts iuX6 hown hK.1 (WW_one hR (f := 0) (i := 0) rfl) 0 rfl rfl 15 (by decide) (hts _ q_823) (fun _ h9 => h9) rfl dX6_place_115 ?_
              refine lv_aload_n hx hb dX6_place_118 rfl (lv_at hl 0 rfl) ?_
              refine va_get (D := D) (ci := 7) (C := RX6) (T := TX6) (N := 22) hx hb hts iuX6 hown hK.1 (WW_one hR (f := 0) (i := 0) rfl) 0 rfl rfl 11 (by decide) (hts _ q_819) (fun _ h9 => h9) rfl dX6_place_119 ?_
              refine lv_iload hx hb dX6_place_122 (lv_at hl 4 rfl) ?_
              obtain ⟨g35, hf⟩ := gd_of hf
              refine ww_iast hx hb hK.1 hR hS 0 (f := 14) (j := 0) rfl rfl rfl g35 dX6_place_124 (fun H locs hR hS => ?_)
              have hR := HM_row14 0 ((gI (pI (pI (pI q22.2 11 0 (gI q22.2 21 0 0).toNatClampNeg a1) 12 0 (gI (pI q22.2 11 0 (gI q22.2 21 0 0).toNatClampNeg a1) 21 0 0).toNatClampNeg a2) 13 0 (gI (pI (pI q22.2 11 0 (gI q22.2 21 0 0).toNatClampNeg a1) 12 0 (gI (pI q22.2 11 0 (gI q22.2 21 0 0).toNatClampNeg a1) 21 0 0).toNatClampNeg a2) 21 0 0).toNatClampNeg a3) 21 0 0).toNatClampNeg) a4 hR
              refine lv_aload_n hx hb dX6_place_125 rfl (lv_at hl 0 rfl) ?_
              refine va_get (D := D) (ci := 7) (C := RX6) (T := TX6) (N := 22) hx hb hts iuX6 hown hK.1 (WW_one hR (f := 0) (i := 0) rfl) 0 rfl rfl 16 (by decide) (hts _ q_824) (fun _ h9 => h9) rfl dX6_place_126 ?_
              refine lv_aload_n hx hb dX6_place_129 rfl (lv_at hl 0 rfl) ?_
              refine va_get (D := D) (ci := 7) (C := RX6) (T := TX6) (N := 22) hx hb hts iuX6 hown hK.1 (WW_one hR (f := 0) (i := 0) rfl) 0 rfl rfl 11 (by decide) (hts _ q_819) (fun _ h9 => h9) rfl dX6_place_130 ?_
              refine lv_iload hx hb dX6_place_133 (lv_at hl 5 rfl) ?_
              obtain ⟨g36, hf⟩ := gd_of hf
              refine ww_iast hx hb hK.1 hR hS 0 (f := 15) (j := 0) rfl rfl rfl g36 dX6_place_135 (fun H locs hR hS => ?_)
              have hR := HM_row15 0 ((gI (pI (pI (pI (pI q22.2 11 0 (gI q22.2 21 0 0).toNatClampNeg a1) 12 0 (gI (pI q22.2 11 0 (gI q22.2 21 0 0).toNatClampNeg a1) 21 0 0).toNatClampNeg a2) 13 0 (gI (pI (pI q22.2 11 0 (gI q22.2 21 0 0).toNatClampNeg a1) 12 0 (gI (pI q22.2 11 0 (gI q22.2 21 0 0).toNatClampNeg a1) 21 0 0).toNatClampNeg a2) 21 0 0).toNatClampNeg a3) 14 0 (gI (pI (pI (pI q22.2 11 0 (gI q22.2 21 0 0).toNatClampNeg a1) 12 0 (gI (pI q22.2 11 0 (gI q22.2 21 0 0).toNatClampNeg a1) 21 0 0).toNatClampNeg a2) 13 0 (gI (pI (pI q22.2 11 0 (gI q22.2 21 0 0).toNatClampNeg a1) 12 0 (gI (pI q22.2 11 0 (gI q22.2 21 0 0).toNatClampNeg a1) 21 0 0).toNatClampNeg a2) 21 0 0).toNatClampNeg a3) 21 0 0).toNatClampNeg a4) 21 0 0).toNatClampNeg) a5 hR
              refine lv_aload_n hx hb dX6_place_136 rfl (lv_at hl 0 rfl) ?_
              refine lv_dup hx hb dX6_place_137 rfl ?_
              refine va_get (D := D) (ci := 7) (C := RX6) (T := TX6) (N := 22) hx hb hts iuX6 hown hK.1 (WW_one hR (f := 0) (i := 0) rfl) 0 rfl rfl 11 (by decide) (hts _ q_819) (fun _ h9 => h9) rfl dX6_place_138 ?_
              refine lv_iconst (v := 1) hx hb dX6_place_141 (by decide) ?_
              refine lv_iadd hx hb dX6_place_142 ?_
              refine ww_put (D := D) (ci := 7) (C := RX6) (T := TX6) (N := 22) (ty := .int) hx hb hts iuX6 tyX6 tyX6_ok nmX6 hown hK.1 hR hS (f := 0) (i := 0) rfl rfl rfl 11 (by decide) (hts _ q_819) (fun _ h9 => h9) rfl (by decide +kernel) rfl rfl (Nat.le_of_ble_eq_true rfl) dX6_place_143 (fun H locs hR hS => ?_)
              have hR := HM_model_placed 0 ((gI (pI (pI (pI (pI (pI q22.2 11 0 (gI q22.2 21 0 0).toNatClampNeg a1) 12 0 (gI (pI q22.2 11 0 (gI q22.2 21 0 0).toNatClampNeg a1) 21 0 0).toNatClampNeg a2) 13 0 (gI (pI (pI q22.2 11 0 (gI q22.2 21 0 0).toNatClampNeg a1) 12 0 (gI (pI q22.2 11 0 (gI q22.2 21 0 0).toNatClampNeg a1) 21 0 0).toNatClampNeg a2) 21 0 0).toNatClampNeg a3) 14 0 (gI (pI (pI (pI q22.2 11 0 (gI q22.2 21 0 0).toNatClampNeg a1) 12 0 (gI (pI q22.2 11 0 (gI q22.2 21 0 0).toNatClampNeg a1) 21 0 0).toNatClampNeg a2) 13 0 (gI (pI (pI q22.2 11 0 (gI q22.2 21 0 0).toNatClampNeg a1) 12 0 (gI (pI q22.2 11 0 (gI q22.2 21 0 0).toNatClampNeg a1) 21 0 0).toNatClampNeg a2) 21 0 0).toNatClampNeg a3) 21 0 0).toNatClampNeg a4) 15 0 (gI (pI (pI (pI (pI q22.2 11 0 (gI q22.2 21 0 0).toNatClampNeg a1) 12 0 (gI (pI q22.2 11 0 (gI q22.2 21 0 0).toNatClampNeg a1) 21 0 0).toNatClampNeg a2) 13 0 (gI (pI (pI q22.2 11 0 (gI q22.2 21 0 0).toNatClampNeg a1) 12 0 (gI (pI q22.2 11 0 (gI q22.2 21 0 0).toNatClampNeg a1) 21 0 0).toNatClampNeg a2) 21 0 0).toNatClampNeg a3) 14 0 (gI (pI (pI (pI q22.2 11 0 (gI q22.2 21 0 0).toNatClampNeg a1) 12 0 (gI (pI q22.2 11 0 (gI q22.2 21 0 0).toNatClampNeg a1) 21 0 0).toNatClampNeg a2) 13 0 (gI (pI (pI q22.2 11 0 (gI q22.2 21 0 0).toNatClampNeg a1) 12 0 (gI (pI q22.2 11 0 (gI q22.2 21 0 0).toNatClampNeg a1) 21 0 0).toNatClampNeg a2) 21 0 0).toNatClampNeg a3) 21 0 0).toNatClampNeg a4) 21 0 0).toNatClampNeg a5) 21 0 0) + 1) hR
              refine lv_aload_n hx hb dX6_place_146 rfl (lv_at hl 0 rfl) ?_
              refine lv_aload_n hx hb dX6_place_147 rfl (lv_at hl 0 rfl) ?_
              refine va_get (D := D) (ci := 7) (C := RX6) (T := TX6) (N := 22) hx hb hts iuX6 hown hK.1 (WW_one hR (f := 0) (i := 0) rfl) 0 rfl rfl 11 (by decide) (hts _ q_819) (fun _ h9 => h9) rfl dX6_place_148 ?_
              refine lv_iconst (v := 1) hx hb dX6_place_151 (by decide) ?_
              refine lv_isub hx hb dX6_place_152 ?_
              obtain ⟨q37, hcq37, hf⟩ := bd_of hf
              refine kc_v (va_runV (As := [.int ((gI (pI (pI (pI (pI (pI (pI q22.2 11 0 (gI q22.2 21 0 0).toNatClampNeg a1) 12 0 (gI (pI q22.2 11 0 (gI q22.2 21 0 0).toNatClampNeg a1) 21 0 0).toNatClampNeg a2) 13 0 (gI (pI (pI q22.2 11 0 (gI q22.2 21 0 0).toNatClampNeg a1) 12 0 (gI (pI q22.2 11 0 (gI q22.2 21 0 0).toNatClampNeg a1) 21 0 0).toNatClampNeg a2) 21 0 0).toNatClampNeg a3) 14 0 (gI (pI (pI (pI q22.2 11 0 (gI q22.2 21 0 0).toNatClampNeg a1) 12 0 (gI (pI q22.2 11 0 (gI q22.2 21 0 0).toNatClampNeg a1) 21 0 0).toNatClampNeg a2) 13 0 (gI (pI (pI q22.2 11 0 (gI q22.2 21 0 0).toNatClampNeg a1) 12 0 (gI (pI q22.2 11 0 (gI q22.2 21 0 0).toNatClampNeg a1) 21 0 0).toNatClampNeg a2) 21 0 0).toNatClampNeg a3) 21 0 0).toNatClampNeg a4) 15 0 (gI (pI (pI (pI (pI q22.2 11 0 (gI q22.2 21 0 0).toNatClampNeg a1) 12 0 (gI (pI q22.2 11 0 (gI q22.2 21 0 0).toNatClampNeg a1) 21 0 0).toNatClampNeg a2) 13 0 (gI (pI (pI q22.2 11 0 (gI q22.2 21 0 0).toNatClampNeg a1) 12 0 (gI (pI q22.2 11 0 (gI q22.2 21 0 0).toNatClampNeg a1) 21 0 0).toNatClampNeg a2) 21 0 0).toNatClampNeg a3) 14 0 (gI (pI (pI (pI q22.2 11 0 (gI q22.2 21 0 0).toNatClampNeg a1) 12 0 (gI (pI q22.2 11 0 (gI q22.2 21 0 0).toNatClampNeg a1) 21 0 0).toNatClampNeg a2) 13 0 (gI (pI (pI q22.2 11 0 (gI q22.2 21 0 0).toNatClampNeg a1) 12 0 (gI (pI q22.2 11 0 (gI q22.2 21 0 0).toNatClampNeg a1) 21 0 0).toNatClampNeg a2) 21 0 0).toNatClampNeg a3) 21 0 0).toNatClampNeg a4) 21 0 0).toNatClampNeg a5) 21 0 0 ((gI (pI (pI (pI (pI (pI q22.2 11 0 (gI q22.2 21 0 0).toNatClampNeg a1) 12 0 (gI (pI q22.2 11 0 (gI q22.2 21 0 0).toNatClampNeg a1) 21 0 0).toNatClampNeg a2) 13 0 (gI (pI (pI q22.2 11 0 (gI q22.2 21 0 0).toNatClampNeg a1) 12 0 (gI (pI q22.2 11 0 (gI q22.2 21 0 0).toNatClampNeg a1) 21 0 0).toNatClampNeg a2) 21 0 0).toNatClampNeg a3) 14 0 (gI (pI (pI (pI q22.2 11 0 (gI q22.2 21 0 0).toNatClampNeg a1) 12 0 (gI (pI q22.2 11 0 (gI q22.2 21 0 0).toNatClampNeg a1) 21 0 0).toNatClampNeg a2) 13 0 (gI (pI (pI q22.2 11 0 (gI q22.2 21 0 0).toNatClampNeg a1) 12 0 (gI (pI q22.2 11 0 (gI q22.2 21 0 0).toNatClampNeg a1) 21 0 0).toNatClampNeg a2) 21 0 0).toNatClampNeg a3) 21 0 0).toNatClampNeg a4) 15 0 (gI (pI (pI (pI (pI q22.2 11 0 (gI q22.2 21 0 0).toNatClampNeg a1) 12 0 (gI (pI q22.2 11 0 (gI q22.2 21 0 0).toNatClampNeg a1) 21 0 0).toNatClampNeg a2) 13 0 (gI (pI (pI q22.2 11 0 (gI q22.2 21 0 0).toNatClampNeg a1) 12 0 (gI (pI q22.2 11 0 (gI q22.2 21 0 0).toNatClampNeg a1) 21 0 0).toNatClampNeg a2) 21 0 0).toNatClampNeg a3) 14 0 (gI (pI (pI (pI q22.2 11 0 (gI q22.2 21 0 0).toNatClampNeg a1) 12 0 (gI (pI q22.2 11 0 (gI q22.2 21 0 0).toNatClampNeg a1) 21 0 0).toNatClampNeg a2) 13 0 (gI (pI (pI q22.2 11 0 (gI q22.2 21 0 0).toNatClampNeg a1) 12 0 (gI (pI q22.2 11 0 (gI q22.2 21 0 0).toNatClampNeg a1) 21 0 0).toNatClampNeg a2) 21 0 0).toNatClampNeg a3) 21 0 0).toNatClampNeg a4) 21 0 0).toNatClampNeg a5) 21 0 0) + 1)) 21 0 0) - 1)]) (rest := []) ⟨hx, hb, hml, hown, hts⟩ (mX6_matches l D dA ad (pI (pI (pI (pI (pI (pI q22.2 11 0 (gI q22.2 21 0 0).toNatClampNeg a1) 12 0 (gI (pI q22.2 11 0 (gI q22.2 21 0 0).toNatClampNeg a1) 21 0 0).toNatClampNeg a2) 13 0 (gI (pI (pI q22.2 11 0 (gI q22.2 21 0 0).toNatClampNeg a1) 12 0 (gI (pI q22.2 11 0 (gI q22.2 21 0 0).toNatClampNeg a1) 21 0 0).toNatClampNeg a2) 21 0 0).toNatClampNeg a3) 14 0 (gI (pI (pI (pI q22.2 11 0 (gI q22.2 21 0 0).toNatClampNeg a1) 12 0 (gI (pI q22.2 11 0 (gI q22.2 21 0 0).toNatClampNeg a1) 21 0 0).toNatClampNeg a2) 13 0 (gI (pI (pI q22.2 11 0 (gI q22.2 21 0 0).toNatClampNeg a1) 12 0 (gI (pI q22.2 11 0 (gI q22.2 21 0 0).toNatClampNeg a1) 21 0 0).toNatClampNeg a2) 21 0 0).toNatClampNeg a3) 21 0 0).toNatClampNeg a4) 15 0 (gI (pI (pI (pI (pI q22.2 11 0 (gI q22.2 21 0 0).toNatClampNeg a1) 12 0 (gI (pI q22.2 11 0 (gI q22.2 21 0 0).toNatClampNeg a1) 21 0 0).toNatClampNeg a2) 13 0 (gI (pI (pI q22.2 11 0 (gI q22.2 21 0 0).toNatClampNeg a1) 12 0 (gI (pI q22.2 11 0 (gI q22.2 21 0 0).toNatClampNeg a1) 21 0 0).toNatClampNeg a2) 21 0 0).toNatClampNeg a3) 14 0 (gI (pI (pI (pI q22.2 11 0 (gI q22.2 21 0 0).toNatClampNeg a1) 12 0 (gI (pI q22.2 11 0 (gI q22.2 21 0 0).toNatClampNeg a1) 21 0 0).toNatClampNeg a2) 13 0 (gI (pI (pI q22.2 11 0 (gI q22.2 21 0 0).toNatClampNeg a1) 12 0 (gI (pI q22.2 11 0 (gI q22.2 21 0 0).toNatClampNeg a1) 21 0 0).toNatClampNeg a2) 21 0 0).toNatClampNeg a3) 21 0 0).toNatClampNeg a4) 21 0 0).toNatClampNeg a5) 21 0 0 ((gI (pI (pI (pI (pI (pI q22.2 11 0 (gI q22.2 21 0 0).toNatClampNeg a1) 12 0 (gI (pI q22.2 11 0 (gI q22.2 21 0 0).toNatClampNeg a1) 21 0 0).toNatClampNeg a2) 13 0 (gI (pI (pI q22.2 11 0 (gI q22.2 21 0 0).toNatClampNeg a1) 12 0 (gI (pI q22.2 11 0 (gI q22.2 21 0 0).toNatClampNeg a1) 21 0 0).toNatClampNeg a2) 21 0 0).toNatClampNeg a3) 14 0 (gI (pI (pI (pI q22.2 11 0 (gI q22.2 21 0 0).toNatClampNeg a1) 12 0 (gI (pI q22.2 11 0 (gI q22.2 21 0 0).toNatClampNeg a1) 21 0 0).toNatClampNeg a2) 13 0 (gI (pI (pI q22.2 11 0 (gI q22.2 21 0 0).toNatClampNeg a1) 12 0 (gI (pI q22.2 11 0 (gI q22.2 21 0 0).toNatClampNeg a1) 21 0 0).toNatClampNeg a2) 21 0 0).toNatClampNeg a3) 21 0 0).toNatClampNeg a4) 15 0 (gI (pI (pI (pI (pI q22.2 11 0 (gI q22.2 21 0 0).toNatClampNeg a1) 12 0 (gI (pI q22.2 11 0 (gI q22.2 21 0 0).toNatClampNeg a1) 21 0 0).toNatClampNeg a2) 13 0 (gI (pI (pI q22.2 11 0 (gI q22.2 21 0 0).toNatClampNeg a1) 12 0 (gI (pI q22.2 11 0 (gI q22.2 21 0 0).toNatClampNeg a1) 21 0 0).toNatClampNeg a2) 21 0 0).toNatClampNeg a3) 14 0 (gI (pI (pI (pI q22.2 11 0 (gI q22.2 21 0 0).toNatClampNeg a1) 12 0 (gI (pI q22.2 11 0 (gI q22.2 21 0 0).toNatClampNeg a1) 21 0 0).toNatClampNeg a2) 13 0 (gI (pI (pI q22.2 11 0 (gI q22.2 21 0 0).toNatClampNeg a1) 12 0 (gI (pI q22.2 11 0 (gI q22.2 21 0 0).toNatClampNeg a1) 21 0 0).toNatClampNeg a2) 21 0 0).toNatClampNeg a3) 21 0 0).toNatClampNeg a4) 21 0 0).toNatClampNeg a5) 21 0 0) + 1)) _ ((gI (pI (pI (pI (pI (pI (pI q22.2 11 0 (gI q22.2 21 0 0).toNatClampNeg a1) 12 0 (gI (pI q22.2 11 0 (gI q22.2 21 0 0).toNatClampNeg a1) 21 0 0).toNatClampNeg a2) 13 0 (gI (pI (pI q22.2 11 0 (gI q22.2 21 0 0).toNatClampNeg a1) 12 0 (gI (pI q22.2 11 0 (gI q22.2 21 0 0).toNatClampNeg a1) 21 0 0).toNatClampNeg a2) 21 0 0).toNatClampNeg a3) 14 0 (gI (pI (pI (pI q22.2 11 0 (gI q22.2 21 0 0).toNatClampNeg a1) 12 0 (gI (pI q22.2 11 0 (gI q22.2 21 0 0).toNatClampNeg a1) 21 0 0).toNatClampNeg a2) 13 0 (gI (pI (pI q22.2 11 0 (gI q22.2 21 0 0).toNatClampNeg a1) 12 0 (gI (pI q22.2 11 0 (gI q22.2 21 0 0).toNatClampNeg a1) 21 0 0).toNatClampNeg a2) 21 0 0).toNatClampNeg a3) 21 0 0).toNatClampNeg a4) 15 0 (gI (pI (pI (pI (pI q22.2 11 0 (gI q22.2 21 0 0).toNatClampNeg a1) 12 0 (gI (pI q22.2 11 0 (gI q22.2 21 0 0).toNatClampNeg a1) 21 0 0).toNatClampNeg a2) 13 0 (gI (pI (pI q22.2 11 0 (gI q22.2 21 0 0).toNatClampNeg a1) 12 0 (gI (pI q22.2 11 0 (gI q22.2 21 0 0).toNatClampNeg a1) 21 0 0).toNatClampNeg a2) 21 0 0).toNatClampNeg a3) 14 0 (gI (pI (pI (pI q22.2 11 0 (gI q22.2 21 0 0).toNatClampNeg a1) 12 0 (gI (pI q22.2 11 0 (gI q22.2 21 0 0).toNatClampNeg a1) 21 0 0).toNatClampNeg a2) 13 0 (gI (pI (pI q22.2 11 0 (gI q22.2 21 0 0).toNatClampNeg a1) 12 0 (gI (pI q22.2 11 0 (gI q22.2 21 0 0).toNatClampNeg a1) 21 0 0).toNatClampNeg a2) 21 0 0).toNatClampNeg a3) 21 0 0).toNatClampNeg a4) 21 0 0).toNatClampNeg a5) 21 0 0 ((gI (pI (pI (pI (pI (pI q22.2 11 0 (gI q22.2 21 0 0).toNatClampNeg a1) 12 0 (gI (pI q22.2 11 0 (gI q22.2 21 0 0).toNatClampNeg a1) 21 0 0).toNatClampNeg a2) 13 0 (gI (pI (pI q22.2 11 0 (gI q22.2 21 0 0).toNatClampNeg a1) 12 0 (gI (pI q22.2 11 0 (gI q22.2 21 0 0).toNatClampNeg a1) 21 0 0).toNatClampNeg a2) 21 0 0).toNatClampNeg a3) 14 0 (gI (pI (pI (pI q22.2 11 0 (gI q22.2 21 0 0).toNatClampNeg a1) 12 0 (gI (pI q22.2 11 0 (gI q22.2 21 0 0).toNatClampNeg a1) 21 0 0).toNatClampNeg a2) 13 0 (gI (pI (pI q22.2 11 0 (gI q22.2 21 0 0).toNatClampNeg a1) 12 0 (gI (pI q22.2 11 0 (gI q22.2 21 0 0).toNatClampNeg a1) 21 0 0).toNatClampNeg a2) 21 0 0).toNatClampNeg a3) 21 0 0).toNatClampNeg a4) 15 0 (gI (pI (pI (pI (pI q22.2 11 0 (gI q22.2 21 0 0).toNatClampNeg a1) 12 0 (gI (pI q22.2 11 0 (gI q22.2 21 0 0).toNatClampNeg a1) 21 0 0).toNatClampNeg a2) 13 0 (gI (pI (pI q22.2 11 0 (gI q22.2 21 0 0).toNatClampNeg a1) 12 0 (gI (pI q22.2 11 0 (gI q22.2 21 0 0).toNatClampNeg a1) 21 0 0).toNatClampNeg a2) 21 0 0).toNatClampNeg a3) 14 0 (gI (pI (pI (pI q22.2 11 0 (gI q22.2 21 0 0).toNatClampNeg a1) 12 0 (gI (pI q22.2 11 0 (gI q22.2 21 0 0).toNatClampNeg a1) 21 0 0).toNatClampNeg a2) 13 0 (gI (pI (pI q22.2 11 0 (gI q22.2 21 0 0).toNatClampNeg a1) 12 0 (gI (pI q22.2 11 0 (gI q22.2 21 0 0).toNatClampNeg a1) 21 0 0).toNatClampNeg a2) 21 0 0).toNatClampNeg a3) 21 0 0).toNatClampNeg a4) 21 0 0).toNatClampNeg a5) 21 0 0) + 1)) 21 0 0) - 1) q37 hcq37) (cwV 1 hts gX6_131 rfl rfl rfl (by decide +kernel) ⟨Nat.le_of_ble_eq_true rfl, Nat.le_of_ble_eq_true rfl⟩) (preV_of hR hK (f := 0) (i := 0) rfl rfl rfl _) rfl rfl hl.1 rfl (lv_room (Nat.le_of_ble_eq_true rfl)) dX6_place_153 ⟨Nat.zero_le _, Nat.zero_le _⟩) hA hR hS (fun H locs hR hS => ?_)
              refine lv_aload_n hx hb dX6_place_156 rfl (lv_at hl 0 rfl) ?_
              refine va_get (D := D) (ci := 7) (C := RX6) (T := TX6) (N := 22) hx hb hts iuX6 hown hK.1 (WW_one hR (f := 0) (i := 0) rfl) 0 rfl rfl 11 (by decide) (hts _ q_819) (fun _ h9 => h9) rfl dX6_place_157 ?_
              refine lv_iconst (v := 1) hx hb dX6_place_160 (by decide) ?_
              refine lv_isub hx hb dX6_place_161 ?_
              cases hf
              exact ret_i hC hR hS dX6_place_162
            · have hf := if_of_neg hf (fun q => q c30)
              refine lv_aload_n hx hb dX6_place_78 rfl (lv_at hl 0 rfl) ?_
              refine lv_iconst (v := 2) hx hb dX6_place_79 (by decide) ?_
              obtain ⟨q38, hcq38, hf⟩ := bd_of hf
              refine kc_i (va_runV (As := [.int 2]) (rest := []) ⟨hx, hb, hml, hown, hts⟩ (mX6_fails l D dA ad q22.2 _ 2 q38.1 q38.2 hcq38) (cwV 1 hts gX6_117 rfl rfl rfl (by decide +kernel) ⟨Nat.le_of_ble_eq_true rfl, Nat.le_of_ble_eq_true rfl⟩) (preV_of hR hK (f := 0) (i := 0) rfl rfl rfl _) rfl rfl hl.1 rfl (lv_room (Nat.le_of_ble_eq_true rfl)) dX6_place_80 ⟨Nat.zero_le _, Nat.zero_le _⟩) hA hR hS (fun H locs hR hS => ?_)
              cases hf
              exact ret_i hC hR hS dX6_place_83
      · have hf := if_of_neg hf (fun q => q c23)
        refine lv_iconst (v := 0) hx hb dX6_place_49 (by decide) ?_
        cases hf
        exact ret_i hC hR hS dX6_place_50
    · have hf := if_of_neg hf c21
      refine lv_iload hx hb dX6_place_15 (lv_at hl 4 rfl) ?_
      refine lv_iconst (v := 1) hx hb dX6_place_17 (by decide) ?_
      refine lv_sipush (v := 9999) hx hb dX6_place_18 (by decide) ?_
      obtain ⟨q39, hcq39, hf⟩ := bd_of hf
      refine kc_i (va_runS (As := [.int a4, .int 1, .int 9999]) (rest := [.ref (ad 0 0)]) ⟨hx, hb, hml, hown, hts⟩ (mX6_in l D dA ad σ _ a4 1 9999 q39 hcq39) (va_cwS 3 hts gX6_74 rfl rfl rfl (by decide +kernel) ⟨Nat.le_of_ble_eq_true rfl, Nat.le_of_ble_eq_true rfl⟩) (preS_of hR hK _) rfl rfl hl.1 rfl (lv_room (Nat.le_of_ble_eq_true rfl)) dX6_place_21 ⟨Nat.zero_le _, Nat.zero_le _⟩) hA hR hS (fun H locs hR hS => ?_)
      refine lv_if_eq (tgt := 42) hx hb dX6_place_24 (by decide) (fun c40 => ?_) (fun c40 => ?_)
      · have hf := if_of_pos hf c40
        refine lv_iconst (v := 0) hx hb dX6_place_42 (by decide) ?_
        obtain ⟨q41, hcq41, hf⟩ := bd_of hf
        refine kc_i (va_runV (As := [.int 0]) (rest := []) ⟨hx, hb, hml, hown, hts⟩ (mX6_asks l D dA ad σ _ 0 q41.1 q41.2 hcq41) (cwV 1 hts gX6_78 rfl rfl rfl (by decide +kernel) ⟨Nat.le_of_ble_eq_true rfl, Nat.le_of_ble_eq_true rfl⟩) (preV_of hR hK (f := 0) (i := 0) rfl rfl rfl _) rfl rfl hl.1 rfl (lv_room (Nat.le_of_ble_eq_true rfl)) dX6_place_43 ⟨Nat.zero_le _, Nat.zero_le _⟩) hA hR hS (fun H locs hR hS => ?_)
        refine lv_if_ne (tgt := 51) hx hb dX6_place_46 (by decide) (fun c42 => ?_) (fun c42 => ?_)
        · have hf := if_of_pos hf c42
          refine lv_aload_n hx hb dX6_place_51 rfl (lv_at hl 0 rfl) ?_
          refine va_get (D := D) (ci := 7) (C := RX6) (T := TX6) (N := 22) hx hb hts iuX6 hown hK.1 (WW_one hR (f := 0) (i := 0) rfl) 0 rfl rfl 9 (by decide) (hts _ q_817) (fun _ h9 => h9) rfl dX6_place_52 ?_
          refine lv_iload_n hx hb dX6_place_55 rfl (lv_at hl 1 rfl) ?_
          obtain ⟨g43, hf⟩ := gd_of hf
          refine va_zald hx hb hK.1 (WW_one hR (f := 10) (i := 0) rfl) 0 2 rfl rfl g43 dX6_place_56 ?_
          refine lv_if_ne (tgt := 78) hx hb dX6_place_57 (by decide) (fun c44 => ?_) (fun c44 => ?_)
          · have hf := if_of_pos hf c44
            refine lv_aload_n hx hb dX6_place_78 rfl (lv_at hl 0 rfl) ?_
            refine lv_iconst (v := 2) hx hb dX6_place_79 (by decide) ?_
            obtain ⟨q45, hcq45, hf⟩ := bd_of hf
            refine kc_i (va_runV (As := [.int 2]) (rest := []) ⟨hx, hb, hml, hown, hts⟩ (mX6_fails l D dA ad q41.2 _ 2 q45.1 q45.2 hcq45) (cwV 1 hts gX6_117 rfl rfl rfl (by decide +kernel) ⟨Nat.le_of_ble_eq_true rfl, Nat.le_of_ble_eq_true rfl⟩) (preV_of hR hK (f := 0) (i := 0) rfl rfl rfl _) rfl rfl hl.1 rfl (lv_room (Nat.le_of_ble_eq_true rfl)) dX6_place_80 ⟨Nat.zero_le _, Nat.zero_le _⟩) hA hR hS (fun H locs hR hS => ?_)
            cases hf
            exact ret_i hC hR hS dX6_place_83
          · have hf := if_of_neg hf (fun q => q c44)
            refine lv_aload_n hx hb dX6_place_60 rfl (lv_at hl 0 rfl) ?_
            refine va_get (D := D) (ci := 7) (C := RX6) (T := TX6) (N := 22) hx hb hts iuX6 hown hK.1 (WW_one hR (f := 0) (i := 0) rfl) 0 rfl rfl 17 (by decide) (hts _ q_825) (fun _ h9 => h9) rfl dX6_place_61 ?_
            refine lv_iload_n hx hb dX6_place_64 rfl (lv_at hl 2 rfl) ?_
            obtain ⟨g46, hf⟩ := gd_of hf
            refine va_zald hx hb hK.1 (WW_one hR (f := 16) (i := 0) rfl) 0 2 rfl rfl g46 dX6_place_65 ?_
            refine lv_if_ne (tgt := 78) hx hb dX6_place_66 (by decide) (fun c47 => ?_) (fun c47 => ?_)
            · have hf := if_of_pos hf c47
              refine lv_aload_n hx hb dX6_place_78 rfl (lv_at hl 0 rfl) ?_
              refine lv_iconst (v := 2) hx hb dX6_place_79 (by decide) ?_
              obtain ⟨q48, hcq48, hf⟩ := bd_of hf
              refine kc_i (va_runV (As := [.int 2]) (rest := []) ⟨hx, hb, hml, hown, hts⟩ (mX6_fails l D dA ad q41.2 _ 2 q48.1 q48.2 hcq48) (cwV 1 hts gX6_117 rfl rfl rfl (by decide +kernel) ⟨Nat.le_of_ble_eq_true rfl, Nat.le_of_ble_eq_true rfl⟩) (preV_of hR hK (f := 0) (i := 0) rfl rfl rfl _) rfl rfl hl.1 rfl (lv_room (Nat.le_of_ble_eq_true rfl)) dX6_place_80 ⟨Nat.zero_le _, Nat.zero_le _⟩) hA hR hS (fun H locs hR hS => ?_)
              cases hf
              exact ret_i hC hR hS dX6_place_83
            · have hf := if_of_neg hf (fun q => q c47)
              refine lv_aload_n hx hb dX6_place_69 rfl (lv_at hl 0 rfl) ?_
              refine va_get (D := D) (ci := 7) (C := RX6) (T := TX6) (N := 22) hx hb hts iuX6 hown hK.1 (WW_one hR (f := 0) (i := 0) rfl) 0 rfl rfl 11 (by decide) (hts _ q_819) (fun _ h9 => h9) rfl dX6_place_70 ?_
              refine lv_bipush (v := 100) hx hb dX6_place_73 (by decide) ?_
              refine lv_icmp_ne (tgt := 84) hx hb dX6_place_75 (by decide) (fun c49 => ?_) (fun c49 => ?_)
              · have hf := if_of_pos hf c49
                refine lv_aload_n hx hb dX6_place_84 rfl (lv_at hl 0 rfl) ?_
                refine va_get (D := D) (ci := 7) (C := RX6) (T := TX6) (N := 22) hx hb hts iuX6 hown hK.1 (WW_one hR (f := 0) (i := 0) rfl) 0 rfl rfl 12 (by decide) (hts _ q_820) (fun _ h9 => h9) rfl dX6_place_85 ?_
                refine lv_aload_n hx hb dX6_place_88 rfl (lv_at hl 0 rfl) ?_
                refine va_get (D := D) (ci := 7) (C := RX6) (T := TX6) (N := 22) hx hb hts iuX6 hown hK.1 (WW_one hR (f := 0) (i := 0) rfl) 0 rfl rfl 11 (by decide) (hts _ q_819) (fun _ h9 => h9) rfl dX6_place_89 ?_
                refine lv_iload_n hx hb dX6_place_92 rfl (lv_at hl 1 rfl) ?_
                obtain ⟨g50, hf⟩ := gd_of hf
                refine ww_iast hx hb hK.1 hR hS 0 (f := 11) (j := 0) rfl rfl rfl g50 dX6_place_93 (fun H locs hR hS => ?_)
                have hR := HM_row11 0 ((gI q41.2 21 0 0).toNatClampNeg) a1 hR
                refine lv_aload_n hx hb dX6_place_94 rfl (lv_at hl 0 rfl) ?_
                refine va_get (D := D) (ci := 7) (C := RX6) (T := TX6) (N := 22) hx hb hts iuX6 hown hK.1 (WW_one hR (f := 0) (i := 0) rfl) 0 rfl rfl 13 (by decide) (hts _ q_821) (fun _ h9 => h9) rfl dX6_place_95 ?_
                refine lv_aload_n hx hb dX6_place_98 rfl (lv_at hl 0 rfl) ?_
                refine va_get (D := D) (ci := 7) (C := RX6) (T := TX6) (N := 22) hx hb hts iuX6 hown hK.1 (WW_one hR (f := 0) (i := 0) rfl) 0 rfl rfl 11 (by decide) (hts _ q_819) (fun _ h9 => h9) rfl dX6_place_99 ?_
                refine lv_iload_n hx hb dX6_place_102 rfl (lv_at hl 2 rfl) ?_
                obtain ⟨g51, hf⟩ := gd_of hf
                refine ww_iast hx hb hK.1 hR hS 0 (f := 12) (j := 0) rfl rfl rfl g51 dX6_place_103 (fun H locs hR hS => ?_)
                have hR := HM_row12 0 ((gI (pI q41.2 11 0 (gI q41.2 21 0 0).toNatClampNeg a1) 21 0 0).toNatClampNeg) a2 hR
                refine lv_aload_n hx hb dX6_place_104 rfl (lv_at hl 0 rfl) ?_
                refine va_get (D := D) (ci := 7) (C := RX6) (T := TX6) (N := 22) hx hb hts iuX6 hown hK.1 (WW_one hR (f := 0) (i := 0) rfl) 0 rfl rfl 14 (by decide) (hts _ q_822) (fun _ h9 => h9) rfl dX6_place_105 ?_
                refine lv_aload_n hx hb dX6_place_108 rfl (lv_at hl 0 rfl) ?_
                refine va_get (D := D) (ci := 7) (C := RX6) (T := TX6) (N := 22) hx hb hts iuX6 hown hK.1 (WW_one hR (f := 0) (i := 0) rfl) 0 rfl rfl 11 (by decide) (hts _ q_819) (fun _ h9 => h9) rfl dX6_place_109 ?_
                refine lv_iload_n hx hb dX6_place_112 rfl (lv_at hl 3 rfl) ?_
                obtain ⟨g52, hf⟩ := gd_of hf
                obtain ⟨g53, hf⟩ := gd_of hf
                refine ww_zast hx hb hK.1 hR hS 2 (f := 13) (j := 0) rfl rfl rfl (bz_vp g53) g52 dX6_place_113 (fun H locs hR hS => ?_)
                have hR := HM_row13 0 ((gI (pI (pI q41.2 11 0 (gI q41.2 21 0 0).toNatClampNeg a1) 12 0 (gI (pI q41.2 11 0 (gI q41.2 21 0 0).toNatClampNeg a1) 21 0 0).toNatClampNeg a2) 21 0 0).toNatClampNeg) a3 hR
                refine lv_aload_n hx hb dX6_place_114 rfl (lv_at hl 0 rfl) ?_
                refine va_get (D := D) (ci := 7) (C := RX6) (T := TX6) (N := 22) hx hb hts iuX6 hown hK.1 (WW_one hR (f := 0) (i := 0) rfl) 0 rfl rfl 15 (by decide) (hts _ q_823) (fun _ h9 => h9) rfl dX6_place_115 ?_
                refine lv_aload_n hx hb dX6_place_118 rfl (lv_at hl 0 rfl) ?_
                refine va_get (D := D) (ci := 7) (C := RX6) (T := TX6) (N := 22) hx hb hts iuX6 hown hK.1 (WW_one hR (f := 0) (i := 0) rfl) 0 rfl rfl 11 (by decide) (hts _ q_819) (fun _ h9 => h9) rfl dX6_place_119 ?_
                refine lv_iload hx hb dX6_place_122 (lv_at hl 4 rfl) ?_
                obtain ⟨g54, hf⟩ := gd_of hf
                refine ww_iast hx hb hK.1 hR hS 0 (f := 14) (j := 0) rfl rfl rfl g54 dX6_place_124 (fun H locs hR hS => ?_)
                have hR := HM_row14 0 ((gI (pI (pI (pI q41.2 11 0 (gI q41.2 21 0 0).toNatClampNeg a1) 12 0 (gI (pI q41.2 11 0 (gI q41.2 21 0 0).toNatClampNeg a1) 21 0 0).toNatClampNeg a2) 13 0 (gI (pI (pI q41.2 11 0 (gI q41.2 21 0 0).toNatClampNeg a1) 12 0 (gI (pI q41.2 11 0 (gI q41.2 21 0 0).toNatClampNeg a1) 21 0 0).toNatClampNeg a2) 21 0 0).toNatClampNeg a3) 21 0 0).toNatClampNeg) a4 hR
                refine lv_aload_n hx hb dX6_place_125 rfl (lv_at hl 0 rfl) ?_
                refine va_get (D := D) (ci := 7) (C := RX6) (T := TX6) (N := 22) hx hb hts iuX6 hown hK.1 (WW_one hR (f := 0) (i := 0) rfl) 0 rfl rfl 16 (by decide) (hts _ q_824) (fun _ h9 => h9) rfl dX6_place_126 ?_
                refine lv_aload_n hx hb dX6_place_129 rfl (lv_at hl 0 rfl) ?_
                refine va_get (D := D) (ci := 7) (C := RX6) (T := TX6) (N := 22) hx hb hts iuX6 hown hK.1 (WW_one hR (f := 0) (i := 0) rfl) 0 rfl rfl 11 (by decide) (hts _ q_819) (fun _ h9 => h9) rfl dX6_place_130 ?_
                refine lv_iload hx hb dX6_place_133 (lv_at hl 5 rfl) ?_
                obtain ⟨g55, hf⟩ := gd_of hf
                refine ww_iast hx hb hK.1 hR hS 0 (f := 15) (j := 0) rfl rfl rfl g55 dX6_place_135 (fun H locs hR hS => ?_)
                have hR := HM_row15 0 ((gI (pI (pI (pI (pI q41.2 11 0 (gI q41.2 21 0 0).toNatClampNeg a1) 12 0 (gI (pI q41.2 11 0 (gI q41.2 21 0 0).toNatClampNeg a1) 21 0 0).toNatClampNeg a2) 13 0 (gI (pI (pI q41.2 11 0 (gI q41.2 21 0 0).toNatClampNeg a1) 12 0 (gI (pI q41.2 11 0 (gI q41.2 21 0 0).toNatClampNeg a1) 21 0 0).toNatClampNeg a2) 21 0 0).toNatClampNeg a3) 14 0 (gI (pI (pI (pI q41.2 11 0 (gI q41.2 21 0 0).toNatClampNeg a1) 12 0 (gI (pI q41.2 11 0 (gI q41.2 21 0 0).toNatClampNeg a1) 21 0 0).toNatClampNeg a2) 13 0 (gI (pI (pI q41.2 11 0 (gI q41.2 21 0 0).toNatClampNeg a1) 12 0 (gI (pI q41.2 11 0 (gI q41.2 21 0 0).toNatClampNeg a1) 21 0 0).toNatClampNeg a2) 21 0 0).toNatClampNeg a3) 21 0 0).toNatClampNeg a4) 21 0 0).toNatClampNeg) a5 hR
                refine lv_aload_n hx hb dX6_place_136 rfl (lv_at hl 0 rfl) ?_
                refine lv_dup hx hb dX6_place_137 rfl ?_
                refine va_get (D := D) (ci := 7) (C := RX6) (T := TX6) (N := 22) hx hb hts iuX6 hown hK.1 (WW_one hR (f := 0) (i := 0) rfl) 0 rfl rfl 11 (by decide) (hts _ q_819) (fun _ h9 => h9) rfl dX6_place_138 ?_
                refine lv_iconst (v := 1) hx hb dX6_place_141 (by decide) ?_
                refine lv_iadd hx hb dX6_place_142 ?_
                refine ww_put (D := D) (ci := 7) (C := RX6) (T := TX6) (N := 22) (ty := .int) hx hb hts iuX6 tyX6 tyX6_ok nmX6 hown hK.1 hR hS (f := 0) (i := 0) rfl rfl rfl 11 (by decide) (hts _ q_819) (fun _ h9 => h9) rfl (by decide +kernel) rfl rfl (Nat.le_of_ble_eq_true rfl) dX6_place_143 (fun H locs hR hS => ?_)
                have hR := HM_model_placed 0 ((gI (pI (pI (pI (pI (pI q41.2 11 0 (gI q41.2 21 0 0).toNatClampNeg a1) 12 0 (gI (pI q41.2 11 0 (gI q41.2 21 0 0).toNatClampNeg a1) 21 0 0).toNatClampNeg a2) 13 0 (gI (pI (pI q41.2 11 0 (gI q41.2 21 0 0).toNatClampNeg a1) 12 0 (gI (pI q41.2 11 0 (gI q41.2 21 0 0).toNatClampNeg a1) 21 0 0).toNatClampNeg a2) 21 0 0).toNatClampNeg a3) 14 0 (gI (pI (pI (pI q41.2 11 0 (gI q41.2 21 0 0).toNatClampNeg a1) 12 0 (gI (pI q41.2 11 0 (gI q41.2 21 0 0).toNatClampNeg a1) 21 0 0).toNatClampNeg a2) 13 0 (gI (pI (pI q41.2 11 0 (gI q41.2 21 0 0).toNatClampNeg a1) 12 0 (gI (pI q41.2 11 0 (gI q41.2 21 0 0).toNatClampNeg a1) 21 0 0).toNatClampNeg a2) 21 0 0).toNatClampNeg a3) 21 0 0).toNatClampNeg a4) 15 0 (gI (pI (pI (pI (pI q41.2 11 0 (gI q41.2 21 0 0).toNatClampNeg a1) 12 0 (gI (pI q41.2 11 0 (gI q41.2 21 0 0).toNatClampNeg a1) 21 0 0).toNatClampNeg a2) 13 0 (gI (pI (pI q41.2 11 0 (gI q41.2 21 0 0).toNatClampNeg a1) 12 0 (gI (pI q41.2 11 0 (gI q41.2 21 0 0).toNatClampNeg a1) 21 0 0).toNatClampNeg a2) 21 0 0).toNatClampNeg a3) 14 0 (gI (pI (pI (pI q41.2 11 0 (gI q41.2 21 0 0).toNatClampNeg a1) 12 0 (gI (pI q41.2 11 0 (gI q41.2 21 0 0).toNatClampNeg a1) 21 0 0).toNatClampNeg a2) 13 0 (gI (pI (pI q41.2 11 0 (gI q41.2 21 0 0).toNatClampNeg a1) 12 0 (gI (pI q41.2 11 0 (gI q41.2 21 0 0).toNatClampNeg a1) 21 0 0).toNatClampNeg a2) 21 0 0).toNatClampNeg a3) 21 0 0).toNatClampNeg a4) 21 0 0).toNatClampNeg a5) 21 0 0) + 1) hR
                refine lv_aload_n hx hb dX6_place_146 rfl (lv_at hl 0 rfl) ?_
                refine lv_aload_n hx hb dX6_place_147 rfl (lv_at hl 0 rfl) ?_
                refine va_get (D := D) (ci := 7) (C := RX6) (T := TX6) (N := 22) hx hb hts iuX6 hown hK.1 (WW_one hR (f := 0) (i := 0) rfl) 0 rfl rfl 11 (by decide) (hts _ q_819) (fun _ h9 => h9) rfl dX6_place_148 ?_
                refine lv_iconst (v := 1) hx hb dX6_place_151 (by decide) ?_
                refine lv_isub hx hb dX6_place_152 ?_
                obtain ⟨q56, hcq56, hf⟩ := bd_of hf
                refine kc_v (va_runV (As := [.int ((gI (pI (pI (pI (pI (pI (pI q41.2 11 0 (gI q41.2 21 0 0).toNatClampNeg a1) 12 0 (gI (pI q41.2 11 0 (gI q41.2 21 0 0).toNatClampNeg a1) 21 0 0).toNatClampNeg a2) 13 0 (gI (pI (pI q41.2 11 0 (gI q41.2 21 0 0).toNatClampNeg a1) 12 0 (gI (pI q41.2 11 0 (gI q41.2 21 0 0).toNatClampNeg a1) 21 0 0).toNatClampNeg a2) 21 0 0).toNatClampNeg a3) 14 0 (gI (pI (pI (pI q41.2 11 0 (gI q41.2 21 0 0).toNatClampNeg a1) 12 0 (gI (pI q41.2 11 0 (gI q41.2 21 0 0).toNatClampNeg a1) 21 0 0).toNatClampNeg a2) 13 0 (gI (pI (pI q41.2 11 0 (gI q41.2 21 0 0).toNatClampNeg a1) 12 0 (gI (pI q41.2 11 0 (gI q41.2 21 0 0).toNatClampNeg a1) 21 0 0).toNatClampNeg a2) 21 0 0).toNatClampNeg a3) 21 0 0).toNatClampNeg a4) 15 0 (gI (pI (pI (pI (pI q41.2 11 0 (gI q41.2 21 0 0).toNatClampNeg a1) 12 0 (gI (pI q41.2 11 0 (gI q41.2 21 0 0).toNatClampNeg a1) 21 0 0).toNatClampNeg a2) 13 0 (gI (pI (pI q41.2 11 0 (gI q41.2 21 0 0).toNatClampNeg a1) 12 0 (gI (pI q41.2 11 0 (gI q41.2 21 0 0).toNatClampNeg a1) 21 0 0).toNatClampNeg a2) 21 0 0).toNatClampNeg a3) 14 0 (gI (pI (pI (pI q41.2 11 0 (gI q41.2 21 0 0).toNatClampNeg a1) 12 0 (gI (pI q41.2 11 0 (gI q41.2 21 0 0).toNatClampNeg a1) 21 0 0).toNatClampNeg a2) 13 0 (gI (pI (pI q41.2 11 0 (gI q41.2 21 0 0).toNatClampNeg a1) 12 0 (gI (pI q41.2 11 0 (gI q41.2 21 0 0).toNatClampNeg a1) 21 0 0).toNatClampNeg a2) 21 0 0).toNatClampNeg a3) 21 0 0).toNatClampNeg a4) 21 0 0).toNatClampNeg a5) 21 0 0 ((gI (pI (pI (pI (pI (pI q41.2 11 0 (gI q41.2 21 0 0).toNatClampNeg a1) 12 0 (gI (pI q41.2 11 0 (gI q41.2 21 0 0).toNatClampNeg a1) 21 0 0).toNatClampNeg a2) 13 0 (gI (pI (pI q41.2 11 0 (gI q41.2 21 0 0).toNatClampNeg a1) 12 0 (gI (pI q41.2 11 0 (gI q41.2 21 0 0).toNatClampNeg a1) 21 0 0).toNatClampNeg a2) 21 0 0).toNatClampNeg a3) 14 0 (gI (pI (pI (pI q41.2 11 0 (gI q41.2 21 0 0).toNatClampNeg a1) 12 0 (gI (pI q41.2 11 0 (gI q41.2 21 0 0).toNatClampNeg a1) 21 0 0).toNatClampNeg a2) 13 0 (gI (pI (pI q41.2 11 0 (gI q41.2 21 0 0).toNatClampNeg a1) 12 0 (gI (pI q41.2 11 0 (gI q41.2 21 0 0).toNatClampNeg a1) 21 0 0).toNatClampNeg a2) 21 0 0).toNatClampNeg a3) 21 0 0).toNatClampNeg a4) 15 0 (gI (pI (pI (pI (pI q41.2 11 0 (gI q41.2 21 0 0).toNatClampNeg a1) 12 0 (gI (pI q41.2 11 0 (gI q41.2 21 0 0).toNatClampNeg a1) 21 0 0).toNatClampNeg a2) 13 0 (gI (pI (pI q41.2 11 0 (gI q41.2 21 0 0).toNatClampNeg a1) 12 0 (gI (pI q41.2 11 0 (gI q41.2 21 0 0).toNatClampNeg a1) 21 0 0).toNatClampNeg a2) 21 0 0).toNatClampNeg a3) 14 0 (gI (pI (pI (pI q41.2 11 0 (gI q41.2 21 0 0).toNatClampNeg a1) 12 0 (gI (pI q41.2 11 0 (gI q41.2 21 0 0).toNatClampNeg a1) 21 0 0).toNatClampNeg a2) 13 0 (gI (pI (pI q41.2 11 0 (gI q41.2 21 0 0).toNatClampNeg a1) 12 0 (gI (pI q41.2 11 0 (gI q41.2 21 0 0).toNatClampNeg a1) 21 0 0).toNatClampNeg a2) 21 0 0).toNatClampNeg a3) 21 0 0).toNatClampNeg a4) 21 0 0).toNatClampNeg a5) 21 0 0) + 1)) 21 0 0) - 1)]) (rest := []) ⟨hx, hb, hml, hown, hts⟩ (mX6_matches l D dA ad (pI (pI (pI (pI (pI (pI q41.2 11 0 (gI q41.2 21 0 0).toNatClampNeg a1) 12 0 (gI (pI q41.2 11 0 (gI q41.2 21 0 0).toNatClampNeg a1) 21 0 0).toNatClampNeg a2) 13 0 (gI (pI (pI q41.2 11 0 (gI q41.2 21 0 0).toNatClampNeg a1) 12 0 (gI (pI q41.2 11 0 (gI q41.2 21 0 0).toNatClampNeg a1) 21 0 0).toNatClampNeg a2) 21 0 0).toNatClampNeg a3) 14 0 (gI (pI (pI (pI q41.2 11 0 (gI q41.2 21 0 0).toNatClampNeg a1) 12 0 (gI (pI q41.2 11 0 (gI q41.2 21 0 0).toNatClampNeg a1) 21 0 0).toNatClampNeg a2) 13 0 (gI (pI (pI q41.2 11 0 (gI q41.2 21 0 0).toNatClampNeg a1) 12 0 (gI (pI q41.2 11 0 (gI q41.2 21 0 0).toNatClampNeg a1) 21 0 0).toNatClampNeg a2) 21 0 0).toNatClampNeg a3) 21 0 0).toNatClampNeg a4) 15 0 (gI (pI (pI (pI (pI q41.2 11 0 (gI q41.2 21 0 0).toNatClampNeg a1) 12 0 (gI (pI q41.2 11 0 (gI q41.2 21 0 0).toNatClampNeg a1) 21 0 0).toNatClampNeg a2) 13 0 (gI (pI (pI q41.2 11 0 (gI q41.2 21 0 0).toNatClampNeg a1) 12 0 (gI (pI q41.2 11 0 (gI q41.2 21 0 0).toNatClampNeg a1) 21 0 0).toNatClampNeg a2) 21 0 0).toNatClampNeg a3) 14 0 (gI (pI (pI (pI q41.2 11 0 (gI q41.2 21 0 0).toNatClampNeg a1) 12 0 (gI (pI q41.2 11 0 (gI q41.2 21 0 0).toNatClampNeg a1) 21 0 0).toNatClampNeg a2) 13 0 (gI (pI (pI q41.2 11 0 (gI q41.2 21 0 0).toNatClampNeg a1) 12 0 (gI (pI q41.2 11 0 (gI q41.2 21 0 0).toNatClampNeg a1) 21 0 0).toNatClampNeg a2) 21 0 0).toNatClampNeg a3) 21 0 0).toNatClampNeg a4) 21 0 0).toNatClampNeg a5) 21 0 0 ((gI (pI (pI (pI (pI (pI q41.2 11 0 (gI q41.2 21 0 0).toNatClampNeg a1) 12 0 (gI (pI q41.2 11 0 (gI q41.2 21 0 0).toNatClampNeg a1) 21 0 0).toNatClampNeg a2) 13 0 (gI (pI (pI q41.2 11 0 (gI q41.2 21 0 0).toNatClampNeg a1) 12 0 (gI (pI q41.2 11 0 (gI q41.2 21 0 0).toNatClampNeg a1) 21 0 0).toNatClampNeg a2) 21 0 0).toNatClampNeg a3) 14 0 (gI (pI (pI (pI q41.2 11 0 (gI q41.2 21 0 0).toNatClampNeg a1) 12 0 (gI (pI q41.2 11 0 (gI q41.2 21 0 0).toNatClampNeg a1) 21 0 0).toNatClampNeg a2) 13 0 (gI (pI (pI q41.2 11 0 (gI q41.2 21 0 0).toNatClampNeg a1) 12 0 (gI (pI q41.2 11 0 (gI q41.2 21 0 0).toNatClampNeg a1) 21 0 0).toNatClampNeg a2) 21 0 0).toNatClampNeg a3) 21 0 0).toNatClampNeg a4) 15 0 (gI (pI (pI (pI (pI q41.2 11 0 (gI q41.2 21 0 0).toNatClampNeg a1) 12 0 (gI (pI q41.2 11 0 (gI q41.2 21 0 0).toNatClampNeg a1) 21 0 0).toNatClampNeg a2) 13 0 (gI (pI (pI q41.2 11 0 (gI q41.2 21 0 0).toNatClampNeg a1) 12 0 (gI (pI q41.2 11 0 (gI q41.2 21 0 0).toNatClampNeg a1) 21 0 0).toNatClampNeg a2) 21 0 0).toNatClampNeg a3) 14 0 (gI (pI (pI (pI q41.2 11 0 (gI q41.2 21 0 0).toNatClampNeg a1) 12 0 (gI (pI q41.2 11 0 (gI q41.2 21 0 0).toNatClampNeg a1) 21 0 0).toNatClampNeg a2) 13 0 (gI (pI (pI q41.2 11 0 (gI q41.2 21 0 0).toNatClampNeg a1) 12 0 (gI (pI q41.2 11 0 (gI q41.2 21 0 0).toNatClampNeg a1) 21 0 0).toNatClampNeg a2) 21 0 0).toNatClampNeg a3) 21 0 0).toNatClampNeg a4) 21 0 0).toNatClampNeg a5) 21 0 0) + 1)) _ ((gI (pI (pI (pI (pI (pI (pI q41.2 11 0 (gI q41.2 21 0 0).toNatClampNeg a1) 12 0 (gI (pI q41.2 11 0 (gI q41.2 21 0 0).toNatClampNeg a1) 21 0 0).toNatClampNeg a2) 13 0 (gI (pI (pI q41.2 11 0 (gI q41.2 21 0 0).toNatClampNeg a1) 12 0 (gI (pI q41.2 11 0 (gI q41.2 21 0 0).toNatClampNeg a1) 21 0 0).toNatClampNeg a2) 21 0 0).toNatClampNeg a3) 14 0 (gI (pI (pI (pI q41.2 11 0 (gI q41.2 21 0 0).toNatClampNeg a1) 12 0 (gI (pI q41.2 11 0 (gI q41.2 21 0 0).toNatClampNeg a1) 21 0 0).toNatClampNeg a2) 13 0 (gI (pI (pI q41.2 11 0 (gI q41.2 21 0 0).toNatClampNeg a1) 12 0 (gI (pI q41.2 11 0 (gI q41.2 21 0 0).toNatClampNeg a1) 21 0 0).toNatClampNeg a2) 21 0 0).toNatClampNeg a3) 21 0 0).toNatClampNeg a4) 15 0 (gI (pI (pI (pI (pI q41.2 11 0 (gI q41.2 21 0 0).toNatClampNeg a1) 12 0 (gI (pI q41.2 11 0 (gI q41.2 21 0 0).toNatClampNeg a1) 21 0 0).toNatClampNeg a2) 13 0 (gI (pI (pI q41.2 11 0 (gI q41.2 21 0 0).toNatClampNeg a1) 12 0 (gI (pI q41.2 11 0 (gI q41.2 21 0 0).toNatClampNeg a1) 21 0 0).toNatClampNeg a2) 21 0 0).toNatClampNeg a3) 14 0 (gI (pI (pI (pI q41.2 11 0 (gI q41.2 21 0 0).toNatClampNeg a1) 12 0 (gI (pI q41.2 11 0 (gI q41.2 21 0 0).toNatClampNeg a1) 21 0 0).toNatClampNeg a2) 13 0 (gI (pI (pI q41.2 11 0 (gI q41.2 21 0 0).toNatClampNeg a1) 12 0 (gI (pI q41.2 11 0 (gI q41.2 21 0 0).toNatClampNeg a1) 21 0 0).toNatClampNeg a2) 21 0 0).toNatClampNeg a3) 21 0 0).toNatClampNeg a4) 21 0 0).toNatClampNeg a5) 21 0 0 ((gI (pI (pI (pI (pI (pI q41.2 11 0 (gI q41.2 21 0 0).toNatClampNeg a1) 12 0 (gI (pI q41.2 11 0 (gI q41.2 21 0 0).toNatClampNeg a1) 21 0 0).toNatClampNeg a2) 13 0 (gI (pI (pI q41.2 11 0 (gI q41.2 21 0 0).toNatClampNeg a1) 12 0 (gI (pI q41.2 11 0 (gI q41.2 21 0 0).toNatClampNeg a1) 21 0 0).toNatClampNeg a2) 21 0 0).toNatClampNeg a3) 14 0 (gI (pI (pI (pI q41.2 11 0 (gI q41.2 21 0 0).toNatClampNeg a1) 12 0 (gI (pI q41.2 11 0 (gI q41.2 21 0 0).toNatClampNeg a1) 21 0 0).toNatClampNeg a2) 13 0 (gI (pI (pI q41.2 11 0 (gI q41.2 21 0 0).toNatClampNeg a1) 12 0 (gI (pI q41.2 11 0 (gI q41.2 21 0 0).toNatClampNeg a1) 21 0 0).toNatClampNeg a2) 21 0 0).toNatClampNeg a3) 21 0 0).toNatClampNeg a4) 15 0 (gI (pI (pI (pI (pI q41.2 11 0 (gI q41.2 21 0 0).toNatClampNeg a1) 12 0 (gI (pI q41.2 11 0 (gI q41.2 21 0 0).toNatClampNeg a1) 21 0 0).toNatClampNeg a2) 13 0 (gI (pI (pI q41.2 11 0 (gI q41.2 21 0 0).toNatClampNeg a1) 12 0 (gI (pI q41.2 11 0 (gI q41.2 21 0 0).toNatClampNeg a1) 21 0 0).toNatClampNeg a2) 21 0 0).toNatClampNeg a3) 14 0 (gI (pI (pI (pI q41.2 11 0 (gI q41.2 21 0 0).toNatClampNeg a1) 12 0 (gI (pI q41.2 11 0 (gI q41.2 21 0 0).toNatClampNeg a1) 21 0 0).toNatClampNeg a2) 13 0 (gI (pI (pI q41.2 11 0 (gI q41.2 21 0 0).toNatClampNeg a1) 12 0 (gI (pI q41.2 11 0 (gI q41.2 21 0 0).toNatClampNeg a1) 21 0 0).toNatClampNeg a2) 21 0 0).toNatClampNeg a3) 21 0 0).toNatClampNeg a4) 21 0 0).toNatClampNeg a5) 21 0 0) + 1)) 21 0 0) - 1) q56 hcq56) (cwV 1 hts gX6_131 rfl rfl rfl (by decide +kernel) ⟨Nat.le_of_ble_eq_true rfl, Nat.le_of_ble_eq_true rfl⟩) (preV_of hR hK (f := 0) (i := 0) rfl rfl rfl _) rfl rfl hl.1 rfl (lv_room (Nat.le_of_ble_eq_true rfl)) dX6_place_153 ⟨Nat.zero_le _, Nat.zero_le _⟩) hA hR hS (fun H locs hR hS => ?_)
                refine lv_aload_n hx hb dX6_place_156 rfl (lv_at hl 0 rfl) ?_
                refine va_get (D := D) (ci := 7) (C := RX6) (T := TX6) (N := 22) hx hb hts iuX6 hown hK.1 (WW_one hR (f := 0) (i := 0) rfl) 0 rfl rfl 11 (by decide) (hts _ q_819) (fun _ h9 => h9) rfl dX6_place_157 ?_
                refine lv_iconst (v := 1) hx hb dX6_place_160 (by decide) ?_
                refine lv_isub hx hb dX6_place_161 ?_
                cases hf
                exact ret_i hC hR hS dX6_place_162
              · have hf := if_of_neg hf (fun q => q c49)
                refine lv_aload_n hx hb dX6_place_78 rfl (lv_at hl 0 rfl) ?_
                refine lv_iconst (v := 2) hx hb dX6_place_79 (by decide) ?_
                obtain ⟨q57, hcq57, hf⟩ := bd_of hf
                refine kc_i (va_runV (As := [.int 2]) (rest := []) ⟨hx, hb, hml, hown, hts⟩ (mX6_fails l D dA ad q41.2 _ 2 q57.1 q57.2 hcq57) (cwV 1 hts gX6_117 rfl rfl rfl (by decide +kernel) ⟨Nat.le_of_ble_eq_true rfl, Nat.le_of_ble_eq_true rfl⟩) (preV_of hR hK (f := 0) (i := 0) rfl rfl rfl _) rfl rfl hl.1 rfl (lv_room (Nat.le_of_ble_eq_true rfl)) dX6_place_80 ⟨Nat.zero_le _, Nat.zero_le _⟩) hA hR hS (fun H locs hR hS => ?_)
                cases hf
                exact ret_i hC hR hS dX6_place_83
        · have hf := if_of_neg hf (fun q => q c42)
          refine lv_iconst (v := 0) hx hb dX6_place_49 (by decide) ?_
          cases hf
          exact ret_i hC hR hS dX6_place_50
      · have hf := if_of_neg hf c40
        refine lv_iload hx hb dX6_place_27 (lv_at hl 5 rfl) ?_
        refine lv_iconst (v := 1) hx hb dX6_place_29 (by decide) ?_
        refine lv_bipush (v := 100) hx hb dX6_place_30 (by decide) ?_
        obtain ⟨q58, hcq58, hf⟩ := bd_of hf
        refine kc_i (va_runS (As := [.int a5, .int 1, .int 100]) (rest := [.ref (ad 0 0)]) ⟨hx, hb, hml, hown, hts⟩ (mX6_in l D dA ad σ _ a5 1 100 q58 hcq58) (va_cwS 3 hts gX6_74 rfl rfl rfl (by decide +kernel) ⟨Nat.le_of_ble_eq_true rfl, Nat.le_of_ble_eq_true rfl⟩) (preS_of hR hK _) rfl rfl hl.1 rfl (lv_room (Nat.le_of_ble_eq_true rfl)) dX6_place_32 ⟨Nat.zero_le _, Nat.zero_le _⟩) hA hR hS (fun H locs hR hS => ?_)
        refine lv_if_eq (tgt := 42) hx hb dX6_place_35 (by decide) (fun c59 => ?_) (fun c59 => ?_)
        · have hf := if_of_pos hf c59
          refine lv_iconst (v := 0) hx hb dX6_place_42 (by decide) ?_
          obtain ⟨q60, hcq60, hf⟩ := bd_of hf
          refine kc_i (va_runV (As := [.int 0]) (rest := []) ⟨hx, hb, hml, hown, hts⟩ (mX6_asks l D dA ad σ _ 0 q60.1 q60.2 hcq60) (cwV 1 hts gX6_78 rfl rfl rfl (by decide +kernel) ⟨Nat.le_of_ble_eq_true rfl, Nat.le_of_ble_eq_true rfl⟩) (preV_of hR hK (f := 0) (i := 0) rfl rfl rfl _) rfl rfl hl.1 rfl (lv_room (Nat.le_of_ble_eq_true rfl)) dX6_place_43 ⟨Nat.zero_le _, Nat.zero_le _⟩) hA hR hS (fun H locs hR hS => ?_)
          refine lv_if_ne (tgt := 51) hx hb dX6_place_46 (by decide) (fun c61 => ?_) (fun c61 => ?_)
          · have hf := if_of_pos hf c61
            refine lv_aload_n hx hb dX6_place_51 rfl (lv_at hl 0 rfl) ?_
            refine va_get (D := D) (ci := 7) (C := RX6) (T := TX6) (N := 22) hx hb hts iuX6 hown hK.1 (WW_one hR (f := 0) (i := 0) rfl) 0 rfl rfl 9 (by decide) (hts _ q_817) (fun _ h9 => h9) rfl dX6_place_52 ?_
            refine lv_iload_n hx hb dX6_place_55 rfl (lv_at hl 1 rfl) ?_
            obtain ⟨g62, hf⟩ := gd_of hf
            refine va_zald hx hb hK.1 (WW_one hR (f := 10) (i := 0) rfl) 0 2 rfl rfl g62 dX6_place_56 ?_
            refine lv_if_ne (tgt := 78) hx hb dX6_place_57 (by decide) (fun c63 => ?_) (fun c63 => ?_)
            · have hf := if_of_pos hf c63
              refine lv_aload_n hx hb dX6_place_78 rfl (lv_at hl 0 rfl) ?_
              refine lv_iconst (v := 2) hx hb dX6_place_79 (by decide) ?_
              obtain ⟨q64, hcq64, hf⟩ := bd_of hf
              refine kc_i (va_runV (As := [.int 2]) (rest := []) ⟨hx, hb, hml, hown, hts⟩ (mX6_fails l D dA ad q60.2 _ 2 q64.1 q64.2 hcq64) (cwV 1 hts gX6_117 rfl rfl rfl (by decide +kernel) ⟨Nat.le_of_ble_eq_true rfl, Nat.le_of_ble_eq_true rfl⟩) (preV_of hR hK (f := 0) (i := 0) rfl rfl rfl _) rfl rfl hl.1 rfl (lv_room (Nat.le_of_ble_eq_true rfl)) dX6_place_80 ⟨Nat.zero_le _, Nat.zero_le _⟩) hA hR hS (fun H locs hR hS => ?_)
              cases hf
              exact ret_i hC hR hS dX6_place_83
            · have hf := if_of_neg hf (fun q => q c63)
              refine lv_aload_n hx hb dX6_place_60 rfl (lv_at hl 0 rfl) ?_
              refine va_get (D := D) (ci := 7) (C := RX6) (T := TX6) (N := 22) hx hb hts iuX6 hown hK.1 (WW_one hR (f := 0) (i := 0) rfl) 0 rfl rfl 17 (by decide) (hts _ q_825) (fun _ h9 => h9) rfl dX6_place_61 ?_
              refine lv_iload_n hx hb dX6_place_64 rfl (lv_at hl 2 rfl) ?_
              obtain ⟨g65, hf⟩ := gd_of hf
              refine va_zald hx hb hK.1 (WW_one hR (f := 16) (i := 0) rfl) 0 2 rfl rfl g65 dX6_place_65 ?_
              refine lv_if_ne (tgt := 78) hx hb dX6_place_66 (by decide) (fun c66 => ?_) (fun c66 => ?_)
              · have hf := if_of_pos hf c66
                refine lv_aload_n hx hb dX6_place_78 rfl (lv_at hl 0 rfl) ?_
                refine lv_iconst (v := 2) hx hb dX6_place_79 (by decide) ?_
                obtain ⟨q67, hcq67, hf⟩ := bd_of hf
                refine kc_i (va_runV (As := [.int 2]) (rest := []) ⟨hx, hb, hml, hown, hts⟩ (mX6_fails l D dA ad q60.2 _ 2 q67.1 q67.2 hcq67) (cwV 1 hts gX6_117 rfl rfl rfl (by decide +kernel) ⟨Nat.le_of_ble_eq_true rfl, Nat.le_of_ble_eq_true rfl⟩) (preV_of hR hK (f := 0) (i := 0) rfl rfl rfl _) rfl rfl hl.1 rfl (lv_room (Nat.le_of_ble_eq_true rfl)) dX6_place_80 ⟨Nat.zero_le _, Nat.zero_le _⟩) hA hR hS (fun H locs hR hS => ?_)
                cases hf
                exact ret_i hC hR hS dX6_place_83
              · have hf := if_of_neg hf (fun q => q c66)
                refine lv_aload_n hx hb dX6_place_69 rfl (lv_at hl 0 rfl) ?_
                refine va_get (D := D) (ci := 7) (C := RX6) (T := TX6) (N := 22) hx hb hts iuX6 hown hK.1 (WW_one hR (f := 0) (i := 0) rfl) 0 rfl rfl 11 (by decide) (hts _ q_819) (fun _ h9 => h9) rfl dX6_place_70 ?_
                refine lv_bipush (v := 100) hx hb dX6_place_73 (by decide) ?_
                refine lv_icmp_ne (tgt := 84) hx hb dX6_place_75 (by decide) (fun c68 => ?_) (fun c68 => ?_)
                · have hf := if_of_pos hf c68
                  refine lv_aload_n hx hb dX6_place_84 rfl (lv_at hl 0 rfl) ?_
                  refine va_get (D := D) (ci := 7) (C := RX6) (T := TX6) (N := 22) hx hb hts iuX6 hown hK.1 (WW_one hR (f := 0) (i := 0) rfl) 0 rfl rfl 12 (by decide) (hts _ q_820) (fun _ h9 => h9) rfl dX6_place_85 ?_
                  refine lv_aload_n hx hb dX6_place_88 rfl (lv_at hl 0 rfl) ?_
                  refine va_get (D := D) (ci := 7) (C := RX6) (T := TX6) (N := 22) hx hb hts iuX6 hown hK.1 (WW_one hR (f := 0) (i := 0) rfl) 0 rfl rfl 11 (by decide) (hts _ q_819) (fun _ h9 => h9) rfl dX6_place_89 ?_
                  refine lv_iload_n hx hb dX6_place_92 rfl (lv_at hl 1 rfl) ?_
                  obtain ⟨g69, hf⟩ := gd_of hf
                  refine ww_iast hx hb hK.1 hR hS 0 (f := 11) (j := 0) rfl rfl rfl g69 dX6_place_93 (fun H locs hR hS => ?_)
                  have hR := HM_row11 0 ((gI q60.2 21 0 0).toNatClampNeg) a1 hR
                  refine lv_aload_n hx hb dX6_place_94 rfl (lv_at hl 0 rfl) ?_
                  refine va_get (D := D) (ci := 7) (C := RX6) (T := TX6) (N := 22) hx hb hts iuX6 hown hK.1 (WW_one hR (f := 0) (i := 0) rfl) 0 rfl rfl 13 (by decide) (hts _ q_821) (fun _ h9 => h9) rfl dX6_place_95 ?_
                  refine lv_aload_n hx hb dX6_place_98 rfl (lv_at hl 0 rfl) ?_
                  refine va_get (D := D) (ci := 7) (C := RX6) (T := TX6) (N := 22) hx hb hts iuX6 hown hK.1 (WW_one hR (f := 0) (i := 0) rfl) 0 rfl rfl 11 (by decide) (hts _ q_819) (fun _ h9 => h9) rfl dX6_place_99 ?_
                  refine lv_iload_n hx hb dX6_place_102 rfl (lv_at hl 2 rfl) ?_
                  obtain ⟨g70, hf⟩ := gd_of hf
                  refine ww_iast hx hb hK.1 hR hS 0 (f := 12) (j := 0) rfl rfl rfl g70 dX6_place_103 (fun H locs hR hS => ?_)
                  have hR := HM_row12 0 ((gI (pI q60.2 11 0 (gI q60.2 21 0 0).toNatClampNeg a1) 21 0 0).toNatClampNeg) a2 hR
                  refine lv_aload_n hx hb dX6_place_104 rfl (lv_at hl 0 rfl) ?_
                  refine va_get (D := D) (ci := 7) (C := RX6) (T := TX6) (N := 22) hx hb hts iuX6 hown hK.1 (WW_one hR (f := 0) (i := 0) rfl) 0 rfl rfl 14 (by decide) (hts _ q_822) (fun _ h9 => h9) rfl dX6_place_105 ?_
                  refine lv_aload_n hx hb dX6_place_108 rfl (lv_at hl 0 rfl) ?_
                  refine va_get (D := D) (ci := 7) (C := RX6) (T := TX6) (N := 22) hx hb hts iuX6 hown hK.1 (WW_one hR (f := 0) (i := 0) rfl) 0 rfl rfl 11 (by decide) (hts _ q_819) (fun _ h9 => h9) rfl dX6_place_109 ?_
                  refine lv_iload_n hx hb dX6_place_112 rfl (lv_at hl 3 rfl) ?_
                  obtain ⟨g71, hf⟩ := gd_of hf
                  obtain ⟨g72, hf⟩ := gd_of hf
                  refine ww_zast hx hb hK.1 hR hS 2 (f := 13) (j := 0) rfl rfl rfl (bz_vp g72) g71 dX6_place_113 (fun H locs hR hS => ?_)
                  have hR := HM_row13 0 ((gI (pI (pI q60.2 11 0 (gI q60.2 21 0 0).toNatClampNeg a1) 12 0 (gI (pI q60.2 11 0 (gI q60.2 21 0 0).toNatClampNeg a1) 21 0 0).toNatClampNeg a2) 21 0 0).toNatClampNeg) a3 hR
                  refine lv_aload_n hx hb dX6_place_114 rfl (lv_at hl 0 rfl) ?_
                  refine va_get (D := D) (ci := 7) (C := RX6) (T := TX6) (N := 22) hx hb hts iuX6 hown hK.1 (WW_one hR (f := 0) (i := 0) rfl) 0 rfl rfl 15 (by decide) (hts _ q_823) (fun _ h9 => h9) rfl dX6_place_115 ?_
                  refine lv_aload_n hx hb dX6_place_118 rfl (lv_at hl 0 rfl) ?_
                  refine va_get (D := D) (ci := 7) (C := RX6) (T := TX6) (N := 22) hx hb hts iuX6 hown hK.1 (WW_one hR (f := 0) (i := 0) rfl) 0 rfl rfl 11 (by decide) (hts _ q_819) (fun _ h9 => h9) rfl dX6_place_119 ?_
                  refine lv_iload hx hb dX6_place_122 (lv_at hl 4 rfl) ?_
                  obtain ⟨g73, hf⟩ := gd_of hf
                  refine ww_iast hx hb hK.1 hR hS 0 (f := 14) (j := 0) rfl rfl rfl g73 dX6_place_124 (fun H locs hR hS => ?_)
                  have hR := HM_row14 0 ((gI (pI (pI (pI q60.2 11 0 (gI q60.2 21 0 0).toNatClampNeg a1) 12 0 (gI (pI q60.2 11 0 (gI q60.2 21 0 0).toNatClampNeg a1) 21 0 0).toNatClampNeg a2) 13 0 (gI (pI (pI q60.2 11 0 (gI q60.2 21 0 0).toNatClampNeg a1) 12 0 (gI (pI q60.2 11 0 (gI q60.2 21 0 0).toNatClampNeg a1) 21 0 0).toNatClampNeg a2) 21 0 0).toNatClampNeg a3) 21 0 0).toNatClampNeg) a4 hR
                  refine lv_aload_n hx hb dX6_place_125 rfl (lv_at hl 0 rfl) ?_
                  refine va_get (D := D) (ci := 7) (C := RX6) (T := TX6) (N := 22) hx hb hts iuX6 hown hK.1 (WW_one hR (f := 0) (i := 0) rfl) 0 rfl rfl 16 (by decide) (hts _ q_824) (fun _ h9 => h9) rfl dX6_place_126 ?_
                  refine lv_aload_n hx hb dX6_place_129 rfl (lv_at hl 0 rfl) ?_
                  refine va_get (D := D) (ci := 7) (C := RX6) (T := TX6) (N := 22) hx hb hts iuX6 hown hK.1 (WW_one hR (f := 0) (i := 0) rfl) 0 rfl rfl 11 (by decide) (hts _ q_819) (fun _ h9 => h9) rfl dX6_place_130 ?_
                  refine lv_iload hx hb dX6_place_133 (lv_at hl 5 rfl) ?_
                  obtain ⟨g74, hf⟩ := gd_of hf
                  refine ww_iast hx hb hK.1 hR hS 0 (f := 15) (j := 0) rfl rfl rfl g74 dX6_place_135 (fun H locs hR hS => ?_)
                  have hR := HM_row15 0 ((gI (pI (pI (pI (pI q60.2 11 0 (gI q60.2 21 0 0).toNatClampNeg a1) 12 0 (gI (pI q60.2 11 0 (gI q60.2 21 0 0).toNatClampNeg a1) 21 0 0).toNatClampNeg a2) 13 0 (gI (pI (pI q60.2 11 0 (gI q60.2 21 0 0).toNatClampNeg a1) 12 0 (gI (pI q60.2 11 0 (gI q60.2 21 0 0).toNatClampNeg a1) 21 0 0).toNatClampNeg a2) 21 0 0).toNatClampNeg a3) 14 0 (gI (pI (pI (pI q60.2 11 0 (gI q60.2 21 0 0).toNatClampNeg a1) 12 0 (gI (pI q60.2 11 0 (gI q60.2 21 0 0).toNatClampNeg a1) 21 0 0).toNatClampNeg a2) 13 0 (gI (pI (pI q60.2 11 0 (gI q60.2 21 0 0).toNatClampNeg a1) 12 0 (gI (pI q60.2 11 0 (gI q60.2 21 0 0).toNatClampNeg a1) 21 0 0).toNatClampNeg a2) 21 0 0).toNatClampNeg a3) 21 0 0).toNatClampNeg a4) 21 0 0).toNatClampNeg) a5 hR
                  refine lv_aload_n hx hb dX6_place_136 rfl (lv_at hl 0 rfl) ?_
                  refine lv_dup hx hb dX6_place_137 rfl ?_
                  refine va_get (D := D) (ci := 7) (C := RX6) (T := TX6) (N := 22) hx hb hts iuX6 hown hK.1 (WW_one hR (f := 0) (i := 0) rfl) 0 rfl rfl 11 (by decide) (hts _ q_819) (fun _ h9 => h9) rfl dX6_place_138 ?_
                  refine lv_iconst (v := 1) hx hb dX6_place_141 (by decide) ?_
                  refine lv_iadd hx hb dX6_place_142 ?_
                  refine ww_put (D := D) (ci := 7) (C := RX6) (T := TX6) (N := 22) (ty := .int) hx hb hts iuX6 tyX6 tyX6_ok nmX6 hown hK.1 hR hS (f := 0) (i := 0) rfl rfl rfl 11 (by decide) (hts _ q_819) (fun _ h9 => h9) rfl (by decide +kernel) rfl rfl (Nat.le_of_ble_eq_true rfl) dX6_place_143 (fun H locs hR hS => ?_)
                  have hR := HM_model_placed 0 ((gI (pI (pI (pI (pI (pI q60.2 11 0 (gI q60.2 21 0 0).toNatClampNeg a1) 12 0 (gI (pI q60.2 11 0 (gI q60.2 21 0 0).toNatClampNeg a1) 21 0 0).toNatClampNeg a2) 13 0 (gI (pI (pI q60.2 11 0 (gI q60.2 21 0 0).toNatClampNeg a1) 12 0 (gI (pI q60.2 11 0 (gI q60.2 21 0 0).toNatClampNeg a1) 21 0 0).toNatClampNeg a2) 21 0 0).toNatClampNeg a3) 14 0 (gI (pI (pI (pI q60.2 11 0 (gI q60.2 21 0 0).toNatClampNeg a1) 12 0 (gI (pI q60.2 11 0 (gI q60.2 21 0 0).toNatClampNeg a1) 21 0 0).toNatClampNeg a2) 13 0 (gI (pI (pI q60.2 11 0 (gI q60.2 21 0 0).toNatClampNeg a1) 12 0 (gI (pI q60.2 11 0 (gI q60.2 21 0 0).toNatClampNeg a1) 21 0 0).toNatClampNeg a2) 21 0 0).toNatClampNeg a3) 21 0 0).toNatClampNeg a4) 15 0 (gI (pI (pI (pI (pI q60.2 11 0 (gI q60.2 21 0 0).toNatClampNeg a1) 12 0 (gI (pI q60.2 11 0 (gI q60.2 21 0 0).toNatClampNeg a1) 21 0 0).toNatClampNeg a2) 13 0 (gI (pI (pI q60.2 11 0 (gI q60.2 21 0 0).toNatClampNeg a1) 12 0 (gI (pI q60.2 11 0 (gI q60.2 21 0 0).toNatClampNeg a1) 21 0 0).toNatClampNeg a2) 21 0 0).toNatClampNeg a3) 14 0 (gI (pI (pI (pI q60.2 11 0 (gI q60.2 21 0 0).toNatClampNeg a1) 12 0 (gI (pI q60.2 11 0 (gI q60.2 21 0 0).toNatClampNeg a1) 21 0 0).toNatClampNeg a2) 13 0 (gI (pI (pI q60.2 11 0 (gI q60.2 21 0 0).toNatClampNeg a1) 12 0 (gI (pI q60.2 11 0 (gI q60.2 21 0 0).toNatClampNeg a1) 21 0 0).toNatClampNeg a2) 21 0 0).toNatClampNeg a3) 21 0 0).toNatClampNeg a4) 21 0 0).toNatClampNeg a5) 21 0 0) + 1) hR
                  refine lv_aload_n hx hb dX6_place_146 rfl (lv_at hl 0 rfl) ?_
                  refine lv_aload_n hx hb dX6_place_147 rfl (lv_at hl 0 rfl) ?_
                  refine va_get (D := D) (ci := 7) (C := RX6) (T := TX6) (N := 22) hx hb hts iuX6 hown hK.1 (WW_one hR (f := 0) (i := 0) rfl) 0 rfl rfl 11 (by decide) (hts _ q_819) (fun _ h9 => h9) rfl dX6_place_148 ?_
                  refine lv_iconst (v := 1) hx hb dX6_place_151 (by decide) ?_
                  refine lv_isub hx hb dX6_place_152 ?_
                  obtain ⟨q75, hcq75, hf⟩ := bd_of hf
                  refine kc_v (va_runV (As := [.int ((gI (pI (pI (pI (pI (pI (pI q60.2 11 0 (gI q60.2 21 0 0).toNatClampNeg a1) 12 0 (gI (pI q60.2 11 0 (gI q60.2 21 0 0).toNatClampNeg a1) 21 0 0).toNatClampNeg a2) 13 0 (gI (pI (pI q60.2 11 0 (gI q60.2 21 0 0).toNatClampNeg a1) 12 0 (gI (pI q60.2 11 0 (gI q60.2 21 0 0).toNatClampNeg a1) 21 0 0).toNatClampNeg a2) 21 0 0).toNatClampNeg a3) 14 0 (gI (pI (pI (pI q60.2 11 0 (gI q60.2 21 0 0).toNatClampNeg a1) 12 0 (gI (pI q60.2 11 0 (gI q60.2 21 0 0).toNatClampNeg a1) 21 0 0).toNatClampNeg a2) 13 0 (gI (pI (pI q60.2 11 0 (gI q60.2 21 0 0).toNatClampNeg a1) 12 0 (gI (pI q60.2 11 0 (gI q60.2 21 0 0).toNatClampNeg a1) 21 0 0).toNatClampNeg a2) 21 0 0).toNatClampNeg a3) 21 0 0).toNatClampNeg a4) 15 0 (gI (pI (pI (pI (pI q60.2 11 0 (gI q60.2 21 0 0).toNatClampNeg a1) 12 0 (gI (pI q60.2 11 0 (gI q60.2 21 0 0).toNatClampNeg a1) 21 0 0).toNatClampNeg a2) 13 0 (gI (pI (pI q60.2 11 0 (gI q60.2 21 0 0).toNatClampNeg a1) 12 0 (gI (pI q60.2 11 0 (gI q60.2 21 0 0).toNatClampNeg a1) 21 0 0).toNatClampNeg a2) 21 0 0).toNatClampNeg a3) 14 0 (gI (pI (pI (pI q60.2 11 0 (gI q60.2 21 0 0).toNatClampNeg a1) 12 0 (gI (pI q60.2 11 0 (gI q60.2 21 0 0).toNatClampNeg a1) 21 0 0).toNatClampNeg a2) 13 0 (gI (pI (pI q60.2 11 0 (gI q60.2 21 0 0).toNatClampNeg a1) 12 0 (gI (pI q60.2 11 0 (gI q60.2 21 0 0).toNatClampNeg a1) 21 0 0).toNatClampNeg a2) 21 0 0).toNatClampNeg a3) 21 0 0).toNatClampNeg a4) 21 0 0).toNatClampNeg a5) 21 0 0 ((gI (pI (pI (pI (pI (pI q60.2 11 0 (gI q60.2 21 0 0).toNatClampNeg a1) 12 0 (gI (pI q60.2 11 0 (gI q60.2 21 0 0).toNatClampNeg a1) 21 0 0).toNatClampNeg a2) 13 0 (gI (pI (pI q60.2 11 0 (gI q60.2 21 0 0).toNatClampNeg a1) 12 0 (gI (pI q60.2 11 0 (gI q60.2 21 0 0).toNatClampNeg a1) 21 0 0).toNatClampNeg a2) 21 0 0).toNatClampNeg a3) 14 0 (gI (pI (pI (pI q60.2 11 0 (gI q60.2 21 0 0).toNatClampNeg a1) 12 0 (gI (pI q60.2 11 0 (gI q60.2 21 0 0).toNatClampNeg a1) 21 0 0).toNatClampNeg a2) 13 0 (gI (pI (pI q60.2 11 0 (gI q60.2 21 0 0).toNatClampNeg a1) 12 0 (gI (pI q60.2 11 0 (gI q60.2 21 0 0).toNatClampNeg a1) 21 0 0).toNatClampNeg a2) 21 0 0).toNatClampNeg a3) 21 0 0).toNatClampNeg a4) 15 0 (gI (pI (pI (pI (pI q60.2 11 0 (gI q60.2 21 0 0).toNatClampNeg a1) 12 0 (gI (pI q60.2 11 0 (gI q60.2 21 0 0).toNatClampNeg a1) 21 0 0).toNatClampNeg a2) 13 0 (gI (pI (pI q60.2 11 0 (gI q60.2 21 0 0).toNatClampNeg a1) 12 0 (gI (pI q60.2 11 0 (gI q60.2 21 0 0).toNatClampNeg a1) 21 0 0).toNatClampNeg a2) 21 0 0).toNatClampNeg a3) 14 0 (gI (pI (pI (pI q60.2 11 0 (gI q60.2 21 0 0).toNatClampNeg a1) 12 0 (gI (pI q60.2 11 0 (gI q60.2 21 0 0).toNatClampNeg a1) 21 0 0).toNatClampNeg a2) 13 0 (gI (pI (pI q60.2 11 0 (gI q60.2 21 0 0).toNatClampNeg a1) 12 0 (gI (pI q60.2 11 0 (gI q60.2 21 0 0).toNatClampNeg a1) 21 0 0).toNatClampNeg a2) 21 0 0).toNatClampNeg a3) 21 0 0).toNatClampNeg a4) 21 0 0).toNatClampNeg a5) 21 0 0) + 1)) 21 0 0) - 1)]) (rest := []) ⟨hx, hb, hml, hown, hts⟩ (mX6_matches l D dA ad (pI (pI (pI (pI (pI (pI q60.2 11 0 (gI q60.2 21 0 0).toNatClampNeg a1) 12 0 (gI (pI q60.2 11 0 (gI q60.2 21 0 0).toNatClampNeg a1) 21 0 0).toNatClampNeg a2) 13 0 (gI (pI (pI q60.2 11 0 (gI q60.2 21 0 0).toNatClampNeg a1) 12 0 (gI (pI q60.2 11 0 (gI q60.2 21 0 0).toNatClampNeg a1) 21 0 0).toNatClampNeg a2) 21 0 0).toNatClampNeg a3) 14 0 (gI (pI (pI (pI q60.2 11 0 (gI q60.2 21 0 0).toNatClampNeg a1) 12 0 (gI (pI q60.2 11 0 (gI q60.2 21 0 0).toNatClampNeg a1) 21 0 0).toNatClampNeg a2) 13 0 (gI (pI (pI q60.2 11 0 (gI q60.2 21 0 0).toNatClampNeg a1) 12 0 (gI (pI q60.2 11 0 (gI q60.2 21 0 0).toNatClampNeg a1) 21 0 0).toNatClampNeg a2) 21 0 0).toNatClampNeg a3) 21 0 0).toNatClampNeg a4) 15 0 (gI (pI (pI (pI (pI q60.2 11 0 (gI q60.2 21 0 0).toNatClampNeg a1) 12 0 (gI (pI q60.2 11 0 (gI q60.2 21 0 0).toNatClampNeg a1) 21 0 0).toNatClampNeg a2) 13 0 (gI (pI (pI q60.2 11 0 (gI q60.2 21 0 0).toNatClampNeg a1) 12 0 (gI (pI q60.2 11 0 (gI q60.2 21 0 0).toNatClampNeg a1) 21 0 0).toNatClampNeg a2) 21 0 0).toNatClampNeg a3) 14 0 (gI (pI (pI (pI q60.2 11 0 (gI q60.2 21 0 0).toNatClampNeg a1) 12 0 (gI (pI q60.2 11 0 (gI q60.2 21 0 0).toNatClampNeg a1) 21 0 0).toNatClampNeg a2) 13 0 (gI (pI (pI q60.2 11 0 (gI q60.2 21 0 0).toNatClampNeg a1) 12 0 (gI (pI q60.2 11 0 (gI q60.2 21 0 0).toNatClampNeg a1) 21 0 0).toNatClampNeg a2) 21 0 0).toNatClampNeg a3) 21 0 0).toNatClampNeg a4) 21 0 0).toNatClampNeg a5) 21 0 0 ((gI (pI (pI (pI (pI (pI q60.2 11 0 (gI q60.2 21 0 0).toNatClampNeg a1) 12 0 (gI (pI q60.2 11 0 (gI q60.2 21 0 0).toNatClampNeg a1) 21 0 0).toNatClampNeg a2) 13 0 (gI (pI (pI q60.2 11 0 (gI q60.2 21 0 0).toNatClampNeg a1) 12 0 (gI (pI q60.2 11 0 (gI q60.2 21 0 0).toNatClampNeg a1) 21 0 0).toNatClampNeg a2) 21 0 0).toNatClampNeg a3) 14 0 (gI (pI (pI (pI q60.2 11 0 (gI q60.2 21 0 0).toNatClampNeg a1) 12 0 (gI (pI q60.2 11 0 (gI q60.2 21 0 0).toNatClampNeg a1) 21 0 0).toNatClampNeg a2) 13 0 (gI (pI (pI q60.2 11 0 (gI q60.2 21 0 0).toNatClampNeg a1) 12 0 (gI (pI q60.2 11 0 (gI q60.2 21 0 0).toNatClampNeg a1) 21 0 0).toNatClampNeg a2) 21 0 0).toNatClampNeg a3) 21 0 0).toNatClampNeg a4) 15 0 (gI (pI (pI (pI (pI q60.2 11 0 (gI q60.2 21 0 0).toNatClampNeg a1) 12 0 (gI (pI q60.2 11 0 (gI q60.2 21 0 0).toNatClampNeg a1) 21 0 0).toNatClampNeg a2) 13 0 (gI (pI (pI q60.2 11 0 (gI q60.2 21 0 0).toNatClampNeg a1) 12 0 (gI (pI q60.2 11 0 (gI q60.2 21 0 0).toNatClampNeg a1) 21 0 0).toNatClampNeg a2) 21 0 0).toNatClampNeg a3) 14 0 (gI (pI (pI (pI q60.2 11 0 (gI q60.2 21 0 0).toNatClampNeg a1) 12 0 (gI (pI q60.2 11 0 (gI q60.2 21 0 0).toNatClampNeg a1) 21 0 0).toNatClampNeg a2) 13 0 (gI (pI (pI q60.2 11 0 (gI q60.2 21 0 0).toNatClampNeg a1) 12 0 (gI (pI q60.2 11 0 (gI q60.2 21 0 0).toNatClampNeg a1) 21 0 0).toNatClampNeg a2) 21 0 0).toNatClampNeg a3) 21 0 0).toNatClampNeg a4) 21 0 0).toNatClampNeg a5) 21 0 0) + 1)) _ ((gI (pI (pI (pI (pI (pI (pI q60.2 11 0 (gI q60.2 21 0 0).toNatClampNeg a1) 12 0 (gI (pI q60.2 11 0 (gI q60.2 21 0 0).toNatClampNeg a1) 21 0 0).toNatClampNeg a2) 13 0 (gI (pI (pI q60.2 11 0 (gI q60.2 21 0 0).toNatClampNeg a1) 12 0 (gI (pI q60.2 11 0 (gI q60.2 21 0 0).toNatClampNeg a1) 21 0 0).toNatClampNeg a2) 21 0 0).toNatClampNeg a3) 14 0 (gI (pI (pI (pI q60.2 11 0 (gI q60.2 21 0 0).toNatClampNeg a1) 12 0 (gI (pI q60.2 11 0 (gI q60.2 21 0 0).toNatClampNeg a1) 21 0 0).toNatClampNeg a2) 13 0 (gI (pI (pI q60.2 11 0 (gI q60.2 21 0 0).toNatClampNeg a1) 12 0 (gI (pI q60.2 11 0 (gI q60.2 21 0 0).toNatClampNeg a1) 21 0 0).toNatClampNeg a2) 21 0 0).toNatClampNeg a3) 21 0 0).toNatClampNeg a4) 15 0 (gI (pI (pI (pI (pI q60.2 11 0 (gI q60.2 21 0 0).toNatClampNeg a1) 12 0 (gI (pI q60.2 11 0 (gI q60.2 21 0 0).toNatClampNeg a1) 21 0 0).toNatClampNeg a2) 13 0 (gI (pI (pI q60.2 11 0 (gI q60.2 21 0 0).toNatClampNeg a1) 12 0 (gI (pI q60.2 11 0 (gI q60.2 21 0 0).toNatClampNeg a1) 21 0 0).toNatClampNeg a2) 21 0 0).toNatClampNeg a3) 14 0 (gI (pI (pI (pI q60.2 11 0 (gI q60.2 21 0 0).toNatClampNeg a1) 12 0 (gI (pI q60.2 11 0 (gI q60.2 21 0 0).toNatClampNeg a1) 21 0 0).toNatClampNeg a2) 13 0 (gI (pI (pI q60.2 11 0 (gI q60.2 21 0 0).toNatClampNeg a1) 12 0 (gI (pI q60.2 11 0 (gI q60.2 21 0 0).toNatClampNeg a1) 21 0 0).toNatClampNeg a2) 21 0 0).toNatClampNeg a3) 21 0 0).toNatClampNeg a4) 21 0 0).toNatClampNeg a5) 21 0 0 ((gI (pI (pI (pI (pI (pI q60.2 11 0 (gI q60.2 21 0 0).toNatClampNeg a1) 12 0 (gI (pI q60.2 11 0 (gI q60.2 21 0 0).toNatClampNeg a1) 21 0 0).toNatClampNeg a2) 13 0 (gI (pI (pI q60.2 11 0 (gI q60.2 21 0 0).toNatClampNeg a1) 12 0 (gI (pI q60.2 11 0 (gI q60.2 21 0 0).toNatClampNeg a1) 21 0 0).toNatClampNeg a2) 21 0 0).toNatClampNeg a3) 14 0 (gI (pI (pI (pI q60.2 11 0 (gI q60.2 21 0 0).toNatClampNeg a1) 12 0 (gI (pI q60.2 11 0 (gI q60.2 21 0 0).toNatClampNeg a1) 21 0 0).toNatClampNeg a2) 13 0 (gI (pI (pI q60.2 11 0 (gI q60.2 21 0 0).toNatClampNeg a1) 12 0 (gI (pI q60.2 11 0 (gI q60.2 21 0 0).toNatClampNeg a1) 21 0 0).toNatClampNeg a2) 21 0 0).toNatClampNeg a3) 21 0 0).toNatClampNeg a4) 15 0 (gI (pI (pI (pI (pI q60.2 11 0 (gI q60.2 21 0 0).toNatClampNeg a1) 12 0 (gI (pI q60.2 11 0 (gI q60.2 21 0 0).toNatClampNeg a1) 21 0 0).toNatClampNeg a2) 13 0 (gI (pI (pI q60.2 11 0 (gI q60.2 21 0 0).toNatClampNeg a1) 12 0 (gI (pI q60.2 11 0 (gI q60.2 21 0 0).toNatClampNeg a1) 21 0 0).toNatClampNeg a2) 21 0 0).toNatClampNeg a3) 14 0 (gI (pI (pI (pI q60.2 11 0 (gI q60.2 21 0 0).toNatClampNeg a1) 12 0 (gI (pI q60.2 11 0 (gI q60.2 21 0 0).toNatClampNeg a1) 21 0 0).toNatClampNeg a2) 13 0 (gI (pI (pI q60.2 11 0 (gI q60.2 21 0 0).toNatClampNeg a1) 12 0 (gI (pI q60.2 11 0 (gI q60.2 21 0 0).toNatClampNeg a1) 21 0 0).toNatClampNeg a2) 21 0 0).toNatClampNeg a3) 21 0 0).toNatClampNeg a4) 21 0 0).toNatClampNeg a5) 21 0 0) + 1)) 21 0 0) - 1) q75 hcq75) (cwV 1 hts gX6_131 rfl rfl rfl (by decide +kernel) ⟨Nat.le_of_ble_eq_true rfl, Nat.le_of_ble_eq_true rfl⟩) (preV_of hR hK (f := 0) (i := 0) rfl rfl rfl _) rfl rfl hl.1 rfl (lv_room (Nat.le_of_ble_eq_true rfl)) dX6_place_153 ⟨Nat.zero_le _, Nat.zero_le _⟩) hA hR hS (fun H locs hR hS => ?_)
                  refine lv_aload_n hx hb dX6_place_156 rfl (lv_at hl 0 rfl) ?_
                  refine va_get (D := D) (ci := 7) (C := RX6) (T := TX6) (N := 22) hx hb hts iuX6 hown hK.1 (WW_one hR (f := 0) (i := 0) rfl) 0 rfl rfl 11 (by decide) (hts _ q_819) (fun _ h9 => h9) rfl dX6_place_157 ?_
                  refine lv_iconst (v := 1) hx hb dX6_place_160 (by decide) ?_
                  refine lv_isub hx hb dX6_place_161 ?_
                  cases hf
                  exact ret_i hC hR hS dX6_place_162
                · have hf := if_of_neg hf (fun q => q c68)
                  refine lv_aload_n hx hb dX6_place_78 rfl (lv_at hl 0 rfl) ?_
                  refine lv_iconst (v := 2) hx hb dX6_place_79 (by decide) ?_
                  obtain ⟨q76, hcq76, hf⟩ := bd_of hf
                  refine kc_i (va_runV (As := [.int 2]) (rest := []) ⟨hx, hb, hml, hown, hts⟩ (mX6_fails l D dA ad q60.2 _ 2 q76.1 q76.2 hcq76) (cwV 1 hts gX6_117 rfl rfl rfl (by decide +kernel) ⟨Nat.le_of_ble_eq_true rfl, Nat.le_of_ble_eq_true rfl⟩) (preV_of hR hK (f := 0) (i := 0) rfl rfl rfl _) rfl rfl hl.1 rfl (lv_room (Nat.le_of_ble_eq_true rfl)) dX6_place_80 ⟨Nat.zero_le _, Nat.zero_le _⟩) hA hR hS (fun H locs hR hS => ?_)
                  cases hf
                  exact ret_i hC hR hS dX6_place_83
          · have hf := if_of_neg hf (fun q => q c61)
            refine lv_iconst (v := 0) hx hb dX6_place_49 (by decide) ?_
            cases hf
            exact ret_i hC hR hS dX6_place_50
        · have hf := if_of_neg hf c59
          refine lv_iconst (v := 1) hx hb dX6_place_38 (by decide) ?_
          refine lv_goto (tgt := 43) hx hb dX6_place_39 (by decide) ?_
          obtain ⟨q77, hcq77, hf⟩ := bd_of hf
          refine kc_i (va_runV (As := [.int 1]) (rest := []) ⟨hx, hb, hml, hown, hts⟩ (mX6_asks l D dA ad σ _ 1 q77.1 q77.2 hcq77) (cwV 1 hts gX6_78 rfl rfl rfl (by decide +kernel) ⟨Nat.le_of_ble_eq_true rfl, Nat.le_of_ble_eq_true rfl⟩) (preV_of hR hK (f := 0) (i := 0) rfl rfl rfl _) rfl rfl hl.1 rfl (lv_room (Nat.le_of_ble_eq_true rfl)) dX6_place_43 ⟨Nat.zero_le _, Nat.zero_le _⟩) hA hR hS (fun H locs hR hS => ?_)
          refine lv_if_ne (tgt := 51) hx hb dX6_place_46 (by decide) (fun c78 => ?_) (fun c78 => ?_)
          · have hf := if_of_pos hf c78
            refine lv_aload_n hx hb dX6_place_51 rfl (lv_at hl 0 rfl) ?_
            refine va_get (D := D) (ci := 7) (C := RX6) (T := TX6) (N := 22) hx hb hts iuX6 hown hK.1 (WW_one hR (f := 0) (i := 0) rfl) 0 rfl rfl 9 (by decide) (hts _ q_817) (fun _ h9 => h9) rfl dX6_place_52 ?_
            refine lv_iload_n hx hb dX6_place_55 rfl (lv_at hl 1 rfl) ?_
            obtain ⟨g79, hf⟩ := gd_of hf
            refine va_zald hx hb hK.1 (WW_one hR (f := 10) (i := 0) rfl) 0 2 rfl rfl g79 dX6_place_56 ?_
            refine lv_if_ne (tgt := 78) hx hb dX6_place_57 (by decide) (fun c80 => ?_) (fun c80 => ?_)
            · have hf := if_of_pos hf c80
              refine lv_aload_n hx hb dX6_place_78 rfl (lv_at hl 0 rfl) ?_
              refine lv_iconst (v := 2) hx hb dX6_place_79 (by decide) ?_
              obtain ⟨q81, hcq81, hf⟩ := bd_of hf
              refine kc_i (va_runV (As := [.int 2]) (rest := []) ⟨hx, hb, hml, hown, hts⟩ (mX6_fails l D dA ad q77.2 _ 2 q81.1 q81.2 hcq81) (cwV 1 hts gX6_117 rfl rfl rfl (by decide +kernel) ⟨Nat.le_of_ble_eq_true rfl, Nat.le_of_ble_eq_true rfl⟩) (preV_of hR hK (f := 0) (i := 0) rfl rfl rfl _) rfl rfl hl.1 rfl (lv_room (Nat.le_of_ble_eq_true rfl)) dX6_place_80 ⟨Nat.zero_le _, Nat.zero_le _⟩) hA hR hS (fun H locs hR hS => ?_)
              cases hf
              exact ret_i hC hR hS dX6_place_83
            · have hf := if_of_neg hf (fun q => q c80)
              refine lv_aload_n hx hb dX6_place_60 rfl (lv_at hl 0 rfl) ?_
              refine va_get (D := D) (ci := 7) (C := RX6) (T := TX6) (N := 22) hx hb hts iuX6 hown hK.1 (WW_one hR (f := 0) (i := 0) rfl) 0 rfl rfl 17 (by decide) (hts _ q_825) (fun _ h9 => h9) rfl dX6_place_61 ?_
              refine lv_iload_n hx hb dX6_place_64 rfl (lv_at hl 2 rfl) ?_
              obtain ⟨g82, hf⟩ := gd_of hf
              refine va_zald hx hb hK.1 (WW_one hR (f := 16) (i := 0) rfl) 0 2 rfl rfl g82 dX6_place_65 ?_
              refine lv_if_ne (tgt := 78) hx hb dX6_place_66 (by decide) (fun c83 => ?_) (fun c83 => ?_)
              · have hf := if_of_pos hf c83
                refine lv_aload_n hx hb dX6_place_78 rfl (lv_at hl 0 rfl) ?_
                refine lv_iconst (v := 2) hx hb dX6_place_79 (by decide) ?_
                obtain ⟨q84, hcq84, hf⟩ := bd_of hf
                refine kc_i (va_runV (As := [.int 2]) (rest := []) ⟨hx, hb, hml, hown, hts⟩ (mX6_fails l D dA ad q77.2 _ 2 q84.1 q84.2 hcq84) (cwV 1 hts gX6_117 rfl rfl rfl (by decide +kernel) ⟨Nat.le_of_ble_eq_true rfl, Nat.le_of_ble_eq_true rfl⟩) (preV_of hR hK (f := 0) (i := 0) rfl rfl rfl _) rfl rfl hl.1 rfl (lv_room (Nat.le_of_ble_eq_true rfl)) dX6_place_80 ⟨Nat.zero_le _, Nat.zero_le _⟩) hA hR hS (fun H locs hR hS => ?_)
                cases hf
                exact ret_i hC hR hS dX6_place_83
              · have hf := if_of_neg hf (fun q => q c83)
                refine lv_aload_n hx hb dX6_place_69 rfl (lv_at hl 0 rfl) ?_
                refine va_get (D := D) (ci := 7) (C := RX6) (T := TX6) (N := 22) hx hb hts iuX6 hown hK.1 (WW_one hR (f := 0) (i := 0) rfl) 0 rfl rfl 11 (by decide) (hts _ q_819) (fun _ h9 => h9) rfl dX6_place_70 ?_
                refine lv_bipush (v := 100) hx hb dX6_place_73 (by decide) ?_
                refine lv_icmp_ne (tgt := 84) hx hb dX6_place_75 (by decide) (fun c85 => ?_) (fun c85 => ?_)
                · have hf := if_of_pos hf c85
                  refine lv_aload_n hx hb dX6_place_84 rfl (lv_at hl 0 rfl) ?_
                  refine va_get (D := D) (ci := 7) (C := RX6) (T := TX6) (N := 22) hx hb hts iuX6 hown hK.1 (WW_one hR (f := 0) (i := 0) rfl) 0 rfl rfl 12 (by decide) (hts _ q_820) (fun _ h9 => h9) rfl dX6_place_85 ?_
                  refine lv_aload_n hx hb dX6_place_88 rfl (lv_at hl 0 rfl) ?_
                  refine va_get (D := D) (ci := 7) (C := RX6) (T := TX6) (N := 22) hx hb hts iuX6 hown hK.1 (WW_one hR (f := 0) (i := 0) rfl) 0 rfl rfl 11 (by decide) (hts _ q_819) (fun _ h9 => h9) rfl dX6_place_89 ?_
                  refine lv_iload_n hx hb dX6_place_92 rfl (lv_at hl 1 rfl) ?_
                  obtain ⟨g86, hf⟩ := gd_of hf
                  refine ww_iast hx hb hK.1 hR hS 0 (f := 11) (j := 0) rfl rfl rfl g86 dX6_place_93 (fun H locs hR hS => ?_)
                  have hR := HM_row11 0 ((gI q77.2 21 0 0).toNatClampNeg) a1 hR
                  refine lv_aload_n hx hb dX6_place_94 rfl (lv_at hl 0 rfl) ?_
                  refine va_get (D := D) (ci := 7) (C := RX6) (T := TX6) (N := 22) hx hb hts iuX6 hown hK.1 (WW_one hR (f := 0) (i := 0) rfl) 0 rfl rfl 13 (by decide) (hts _ q_821) (fun _ h9 => h9) rfl dX6_place_95 ?_
                  refine lv_aload_n hx hb dX6_place_98 rfl (lv_at hl 0 rfl) ?_
                  refine va_get (D := D) (ci := 7) (C := RX6) (T := TX6) (N := 22) hx hb hts iuX6 hown hK.1 (WW_one hR (f := 0) (i := 0) rfl) 0 rfl rfl 11 (by decide) (hts _ q_819) (fun _ h9 => h9) rfl dX6_place_99 ?_
                  refine lv_iload_n hx hb dX6_place_102 rfl (lv_at hl 2 rfl) ?_
                  obtain ⟨g87, hf⟩ := gd_of hf
                  refine ww_iast hx hb hK.1 hR hS 0 (f := 12) (j := 0) rfl rfl rfl g87 dX6_place_103 (fun H locs hR hS => ?_)
                  have hR := HM_row12 0 ((gI (pI q77.2 11 0 (gI q77.2 21 0 0).toNatClampNeg a1) 21 0 0).toNatClampNeg) a2 hR
                  refine lv_aload_n hx hb dX6_place_104 rfl (lv_at hl 0 rfl) ?_
                  refine va_get (D := D) (ci := 7) (C := RX6) (T := TX6) (N := 22) hx hb hts iuX6 hown hK.1 (WW_one hR (f := 0) (i := 0) rfl) 0 rfl rfl 14 (by decide) (hts _ q_822) (fun _ h9 => h9) rfl dX6_place_105 ?_
                  refine lv_aload_n hx hb dX6_place_108 rfl (lv_at hl 0 rfl) ?_
                  refine va_get (D := D) (ci := 7) (C := RX6) (T := TX6) (N := 22) hx hb hts iuX6 hown hK.1 (WW_one hR (f := 0) (i := 0) rfl) 0 rfl rfl 11 (by decide) (hts _ q_819) (fun _ h9 => h9) rfl dX6_place_109 ?_
                  refine lv_iload_n hx hb dX6_place_112 rfl (lv_at hl 3 rfl) ?_
                  obtain ⟨g88, hf⟩ := gd_of hf
                  obtain ⟨g89, hf⟩ := gd_of hf
                  refine ww_zast hx hb hK.1 hR hS 2 (f := 13) (j := 0) rfl rfl rfl (bz_vp g89) g88 dX6_place_113 (fun H locs hR hS => ?_)
                  have hR := HM_row13 0 ((gI (pI (pI q77.2 11 0 (gI q77.2 21 0 0).toNatClampNeg a1) 12 0 (gI (pI q77.2 11 0 (gI q77.2 21 0 0).toNatClampNeg a1) 21 0 0).toNatClampNeg a2) 21 0 0).toNatClampNeg) a3 hR
                  refine lv_aload_n hx hb dX6_place_114 rfl (lv_at hl 0 rfl) ?_
                  refine va_get (D := D) (ci := 7) (C := RX6) (T := TX6) (N := 22) hx hb hts iuX6 hown hK.1 (WW_one hR (f := 0) (i := 0) rfl) 0 rfl rfl 15 (by decide) (hts _ q_823) (fun _ h9 => h9) rfl dX6_place_115 ?_
                  refine lv_aload_n hx hb dX6_place_118 rfl (lv_at hl 0 rfl) ?_
                  refine va_get (D := D) (ci := 7) (C := RX6) (T := TX6) (N := 22) hx hb hts iuX6 hown hK.1 (WW_one hR (f := 0) (i := 0) rfl) 0 rfl rfl 11 (by decide) (hts _ q_819) (fun _ h9 => h9) rfl dX6_place_119 ?_
                  refine lv_iload hx hb dX6_place_122 (lv_at hl 4 rfl) ?_
                  obtain ⟨g90, hf⟩ := gd_of hf
                  refine ww_iast hx hb hK.1 hR hS 0 (f := 14) (j := 0) rfl rfl rfl g90 dX6_place_124 (fun H locs hR hS => ?_)
                  have hR := HM_row14 0 ((gI (pI (pI (pI q77.2 11 0 (gI q77.2 21 0 0).toNatClampNeg a1) 12 0 (gI (pI q77.2 11 0 (gI q77.2 21 0 0).toNatClampNeg a1) 21 0 0).toNatClampNeg a2) 13 0 (gI (pI (pI q77.2 11 0 (gI q77.2 21 0 0).toNatClampNeg a1) 12 0 (gI (pI q77.2 11 0 (gI q77.2 21 0 0).toNatClampNeg a1) 21 0 0).toNatClampNeg a2) 21 0 0).toNatClampNeg a3) 21 0 0).toNatClampNeg) a4 hR
                  refine lv_aload_n hx hb dX6_place_125 rfl (lv_at hl 0 rfl) ?_
                  refine va_get (D := D) (ci := 7) (C := RX6) (T := TX6) (N := 22) hx hb hts iuX6 hown hK.1 (WW_one hR (f := 0) (i := 0) rfl) 0 rfl rfl 16 (by decide) (hts _ q_824) (fun _ h9 => h9) rfl dX6_place_126 ?_
                  refine lv_aload_n hx hb dX6_place_129 rfl (lv_at hl 0 rfl) ?_
                  refine va_get (D := D) (ci := 7) (C := RX6) (T := TX6) (N := 22) hx hb hts iuX6 hown hK.1 (WW_one hR (f := 0) (i := 0) rfl) 0 rfl rfl 11 (by decide) (hts _ q_819) (fun _ h9 => h9) rfl dX6_place_130 ?_
                  refine lv_iload hx hb dX6_place_133 (lv_at hl 5 rfl) ?_
                  obtain ⟨g91, hf⟩ := gd_of hf
                  refine ww_iast hx hb hK.1 hR hS 0 (f := 15) (j := 0) rfl rfl rfl g91 dX6_place_135 (fun H locs hR hS => ?_)
                  have hR := HM_row15 0 ((gI (pI (pI (pI (pI q77.2 11 0 (gI q77.2 21 0 0).toNatClampNeg a1) 12 0 (gI (pI q77.2 11 0 (gI q77.2 21 0 0).toNatClampNeg a1) 21 0 0).toNatClampNeg a2) 13 0 (gI (pI (pI q77.2 11 0 (gI q77.2 21 0 0).toNatClampNeg a1) 12 0 (gI (pI q77.2 11 0 (gI q77.2 21 0 0).toNatClampNeg a1) 21 0 0).toNatClampNeg a2) 21 0 0).toNatClampNeg a3) 14 0 (gI (pI (pI (pI q77.2 11 0 (gI q77.2 21 0 0).toNatClampNeg a1) 12 0 (gI (pI q77.2 11 0 (gI q77.2 21 0 0).toNatClampNeg a1) 21 0 0).toNatClampNeg a2) 13 0 (gI (pI (pI q77.2 11 0 (gI q77.2 21 0 0).toNatClampNeg a1) 12 0 (gI (pI q77.2 11 0 (gI q77.2 21 0 0).toNatClampNeg a1) 21 0 0).toNatClampNeg a2) 21 0 0).toNatClampNeg a3) 21 0 0).toNatClampNeg a4) 21 0 0).toNatClampNeg) a5 hR
                  refine lv_aload_n hx hb dX6_place_136 rfl (lv_at hl 0 rfl) ?_
                  refine lv_dup hx hb dX6_place_137 rfl ?_
                  refine va_get (D := D) (ci := 7) (C := RX6) (T := TX6) (N := 22) hx hb hts iuX6 hown hK.1 (WW_one hR (f := 0) (i := 0) rfl) 0 rfl rfl 11 (by decide) (hts _ q_819) (fun _ h9 => h9) rfl dX6_place_138 ?_
                  refine lv_iconst (v := 1) hx hb dX6_place_141 (by decide) ?_
                  refine lv_iadd hx hb dX6_place_142 ?_
                  refine ww_put (D := D) (ci := 7) (C := RX6) (T := TX6) (N := 22) (ty := .int) hx hb hts iuX6 tyX6 tyX6_ok nmX6 hown hK.1 hR hS (f := 0) (i := 0) rfl rfl rfl 11 (by decide) (hts _ q_819) (fun _ h9 => h9) rfl (by decide +kernel) rfl rfl (Nat.le_of_ble_eq_true rfl) dX6_place_143 (fun H locs hR hS => ?_)
                  have hR := HM_model_placed 0 ((gI (pI (pI (pI (pI (pI q77.2 11 0 (gI q77.2 21 0 0).toNatClampNeg a1) 12 0 (gI (pI q77.2 11 0 (gI q77.2 21 0 0).toNatClampNeg a1) 21 0 0).toNatClampNeg a2) 13 0 (gI (pI (pI q77.2 11 0 (gI q77.2 21 0 0).toNatClampNeg a1) 12 0 (gI (pI q77.2 11 0 (gI q77.2 21 0 0).toNatClampNeg a1) 21 0 0).toNatClampNeg a2) 21 0 0).toNatClampNeg a3) 14 0 (gI (pI (pI (pI q77.2 11 0 (gI q77.2 21 0 0).toNatClampNeg a1) 12 0 (gI (pI q77.2 11 0 (gI q77.2 21 0 0).toNatClampNeg a1) 21 0 0).toNatClampNeg a2) 13 0 (gI (pI (pI q77.2 11 0 (gI q77.2 21 0 0).toNatClampNeg a1) 12 0 (gI (pI q77.2 11 0 (gI q77.2 21 0 0).toNatClampNeg a1) 21 0 0).toNatClampNeg a2) 21 0 0).toNatClampNeg a3) 21 0 0).toNatClampNeg a4) 15 0 (gI (pI (pI (pI (pI q77.2 11 0 (gI q77.2 21 0 0).toNatClampNeg a1) 12 0 (gI (pI q77.2 11 0 (gI q77.2 21 0 0).toNatClampNeg a1) 21 0 0).toNatClampNeg a2) 13 0 (gI (pI (pI q77.2 11 0 (gI q77.2 21 0 0).toNatClampNeg a1) 12 0 (gI (pI q77.2 11 0 (gI q77.2 21 0 0).toNatClampNeg a1) 21 0 0).toNatClampNeg a2) 21 0 0).toNatClampNeg a3) 14 0 (gI (pI (pI (pI q77.2 11 0 (gI q77.2 21 0 0).toNatClampNeg a1) 12 0 (gI (pI q77.2 11 0 (gI q77.2 21 0 0).toNatClampNeg a1) 21 0 0).toNatClampNeg a2) 13 0 (gI (pI (pI q77.2 11 0 (gI q77.2 21 0 0).toNatClampNeg a1) 12 0 (gI (pI q77.2 11 0 (gI q77.2 21 0 0).toNatClampNeg a1) 21 0 0).toNatClampNeg a2) 21 0 0).toNatClampNeg a3) 21 0 0).toNatClampNeg a4) 21 0 0).toNatClampNeg a5) 21 0 0) + 1) hR
                  refine lv_aload_n hx hb dX6_place_146 rfl (lv_at hl 0 rfl) ?_
                  refine lv_aload_n hx hb dX6_place_147 rfl (lv_at hl 0 rfl) ?_
                  refine va_get (D := D) (ci := 7) (C := RX6) (T := TX6) (N := 22) hx hb hts iuX6 hown hK.1 (WW_one hR (f := 0) (i := 0) rfl) 0 rfl rfl 11 (by decide) (hts _ q_819) (fun _ h9 => h9) rfl dX6_place_148 ?_
                  refine lv_iconst (v := 1) hx hb dX6_place_151 (by decide) ?_
                  refine lv_isub hx hb dX6_place_152 ?_
                  obtain ⟨q92, hcq92, hf⟩ := bd_of hf
                  refine kc_v (va_runV (As := [.int ((gI (pI (pI (pI (pI (pI (pI q77.2 11 0 (gI q77.2 21 0 0).toNatClampNeg a1) 12 0 (gI (pI q77.2 11 0 (gI q77.2 21 0 0).toNatClampNeg a1) 21 0 0).toNatClampNeg a2) 13 0 (gI (pI (pI q77.2 11 0 (gI q77.2 21 0 0).toNatClampNeg a1) 12 0 (gI (pI q77.2 11 0 (gI q77.2 21 0 0).toNatClampNeg a1) 21 0 0).toNatClampNeg a2) 21 0 0).toNatClampNeg a3) 14 0 (gI (pI (pI (pI q77.2 11 0 (gI q77.2 21 0 0).toNatClampNeg a1) 12 0 (gI (pI q77.2 11 0 (gI q77.2 21 0 0).toNatClampNeg a1) 21 0 0).toNatClampNeg a2) 13 0 (gI (pI (pI q77.2 11 0 (gI q77.2 21 0 0).toNatClampNeg a1) 12 0 (gI (pI q77.2 11 0 (gI q77.2 21 0 0).toNatClampNeg a1) 21 0 0).toNatClampNeg a2) 21 0 0).toNatClampNeg a3) 21 0 0).toNatClampNeg a4) 15 0 (gI (pI (pI (pI (pI q77.2 11 0 (gI q77.2 21 0 0).toNatClampNeg a1) 12 0 (gI (pI q77.2 11 0 (gI q77.2 21 0 0).toNatClampNeg a1) 21 0 0).toNatClampNeg a2) 13 0 (gI (pI (pI q77.2 11 0 (gI q77.2 21 0 0).toNatClampNeg a1) 12 0 (gI (pI q77.2 11 0 (gI q77.2 21 0 0).toNatClampNeg a1) 21 0 0).toNatClampNeg a2) 21 0 0).toNatClampNeg a3) 14 0 (gI (pI (pI (pI q77.2 11 0 (gI q77.2 21 0 0).toNatClampNeg a1) 12 0 (gI (pI q77.2 11 0 (gI q77.2 21 0 0).toNatClampNeg a1) 21 0 0).toNatClampNeg a2) 13 0 (gI (pI (pI q77.2 11 0 (gI q77.2 21 0 0).toNatClampNeg a1) 12 0 (gI (pI q77.2 11 0 (gI q77.2 21 0 0).toNatClampNeg a1) 21 0 0).toNatClampNeg a2) 21 0 0).toNatClampNeg a3) 21 0 0).toNatClampNeg a4) 21 0 0).toNatClampNeg a5) 21 0 0 ((gI (pI (pI (pI (pI (pI q77.2 11 0 (gI q77.2 21 0 0).toNatClampNeg a1) 12 0 (gI (pI q77.2 11 0 (gI q77.2 21 0 0).toNatClampNeg a1) 21 0 0).toNatClampNeg a2) 13 0 (gI (pI (pI q77.2 11 0 (gI q77.2 21 0 0).toNatClampNeg a1) 12 0 (gI (pI q77.2 11 0 (gI q77.2 21 0 0).toNatClampNeg a1) 21 0 0).toNatClampNeg a2) 21 0 0).toNatClampNeg a3) 14 0 (gI (pI (pI (pI q77.2 11 0 (gI q77.2 21 0 0).toNatClampNeg a1) 12 0 (gI (pI q77.2 11 0 (gI q77.2 21 0 0).toNatClampNeg a1) 21 0 0).toNatClampNeg a2) 13 0 (gI (pI (pI q77.2 11 0 (gI q77.2 21 0 0).toNatClampNeg a1) 12 0 (gI (pI q77.2 11 0 (gI q77.2 21 0 0).toNatClampNeg a1) 21 0 0).toNatClampNeg a2) 21 0 0).toNatClampNeg a3) 21 0 0).toNatClampNeg a4) 15 0 (gI (pI (pI (pI (pI q77.2 11 0 (gI q77.2 21 0 0).toNatClampNeg a1) 12 0 (gI (pI q77.2 11 0 (gI q77.2 21 0 0).toNatClampNeg a1) 21 0 0).toNatClampNeg a2) 13 0 (gI (pI (pI q77.2 11 0 (gI q77.2 21 0 0).toNatClampNeg a1) 12 0 (gI (pI q77.2 11 0 (gI q77.2 21 0 0).toNatClampNeg a1) 21 0 0).toNatClampNeg a2) 21 0 0).toNatClampNeg a3) 14 0 (gI (pI (pI (pI q77.2 11 0 (gI q77.2 21 0 0).toNatClampNeg a1) 12 0 (gI (pI q77.2 11 0 (gI q77.2 21 0 0).toNatClampNeg a1) 21 0 0).toNatClampNeg a2) 13 0 (gI (pI (pI q77.2 11 0 (gI q77.2 21 0 0).toNatClampNeg a1) 12 0 (gI (pI q77.2 11 0 (gI q77.2 21 0 0).toNatClampNeg a1) 21 0 0).toNatClampNeg a2) 21 0 0).toNatClampNeg a3) 21 0 0).toNatClampNeg a4) 21 0 0).toNatClampNeg a5) 21 0 0) + 1)) 21 0 0) - 1)]) (rest := []) ⟨hx, hb, hml, hown, hts⟩ (mX6_matches l D dA ad (pI (pI (pI (pI (pI (pI q77.2 11 0 (gI q77.2 21 0 0).toNatClampNeg a1) 12 0 (gI (pI q77.2 11 0 (gI q77.2 21 0 0).toNatClampNeg a1) 21 0 0).toNatClampNeg a2) 13 0 (gI (pI (pI q77.2 11 0 (gI q77.2 21 0 0).toNatClampNeg a1) 12 0 (gI (pI q77.2 11 0 (gI q77.2 21 0 0).toNatClampNeg a1) 21 0 0).toNatClampNeg a2) 21 0 0).toNatClampNeg a3) 14 0 (gI (pI (pI (pI q77.2 11 0 (gI q77.2 21 0 0).toNatClampNeg a1) 12 0 (gI (pI q77.2 11 0 (gI q77.2 21 0 0).toNatClampNeg a1) 21 0 0).toNatClampNeg a2) 13 0 (gI (pI (pI q77.2 11 0 (gI q77.2 21 0 0).toNatClampNeg a1) 12 0 (gI (pI q77.2 11 0 (gI q77.2 21 0 0).toNatClampNeg a1) 21 0 0).toNatClampNeg a2) 21 0 0).toNatClampNeg a3) 21 0 0).toNatClampNeg a4) 15 0 (gI (pI (pI (pI (pI q77.2 11 0 (gI q77.2 21 0 0).toNatClampNeg a1) 12 0 (gI (pI q77.2 11 0 (gI q77.2 21 0 0).toNatClampNeg a1) 21 0 0).toNatClampNeg a2) 13 0 (gI (pI (pI q77.2 11 0 (gI q77.2 21 0 0).toNatClampNeg a1) 12 0 (gI (pI q77.2 11 0 (gI q77.2 21 0 0).toNatClampNeg a1) 21 0 0).toNatClampNeg a2) 21 0 0).toNatClampNeg a3) 14 0 (gI (pI (pI (pI q77.2 11 0 (gI q77.2 21 0 0).toNatClampNeg a1) 12 0 (gI (pI q77.2 11 0 (gI q77.2 21 0 0).toNatClampNeg a1) 21 0 0).toNatClampNeg a2) 13 0 (gI (pI (pI q77.2 11 0 (gI q77.2 21 0 0).toNatClampNeg a1) 12 0 (gI (pI q77.2 11 0 (gI q77.2 21 0 0).toNatClampNeg a1) 21 0 0).toNatClampNeg a2) 21 0 0).toNatClampNeg a3) 21 0 0).toNatClampNeg a4) 21 0 0).toNatClampNeg a5) 21 0 0 ((gI (pI (pI (pI (pI (pI q77.2 11 0 (gI q77.2 21 0 0).toNatClampNeg a1) 12 0 (gI (pI q77.2 11 0 (gI q77.2 21 0 0).toNatClampNeg a1) 21 0 0).toNatClampNeg a2) 13 0 (gI (pI (pI q77.2 11 0 (gI q77.2 21 0 0).toNatClampNeg a1) 12 0 (gI (pI q77.2 11 0 (gI q77.2 21 0 0).toNatClampNeg a1) 21 0 0).toNatClampNeg a2) 21 0 0).toNatClampNeg a3) 14 0 (gI (pI (pI (pI q77.2 11 0 (gI q77.2 21 0 0).toNatClampNeg a1) 12 0 (gI (pI q77.2 11 0 (gI q77.2 21 0 0).toNatClampNeg a1) 21 0 0).toNatClampNeg a2) 13 0 (gI (pI (pI q77.2 11 0 (gI q77.2 21 0 0).toNatClampNeg a1) 12 0 (gI (pI q77.2 11 0 (gI q77.2 21 0 0).toNatClampNeg a1) 21 0 0).toNatClampNeg a2) 21 0 0).toNatClampNeg a3) 21 0 0).toNatClampNeg a4) 15 0 (gI (pI (pI (pI (pI q77.2 11 0 (gI q77.2 21 0 0).toNatClampNeg a1) 12 0 (gI (pI q77.2 11 0 (gI q77.2 21 0 0).toNatClampNeg a1) 21 0 0).toNatClampNeg a2) 13 0 (gI (pI (pI q77.2 11 0 (gI q77.2 21 0 0).toNatClampNeg a1) 12 0 (gI (pI q77.2 11 0 (gI q77.2 21 0 0).toNatClampNeg a1) 21 0 0).toNatClampNeg a2) 21 0 0).toNatClampNeg a3) 14 0 (gI (pI (pI (pI q77.2 11 0 (gI q77.2 21 0 0).toNatClampNeg a1) 12 0 (gI (pI q77.2 11 0 (gI q77.2 21 0 0).toNatClampNeg a1) 21 0 0).toNatClampNeg a2) 13 0 (gI (pI (pI q77.2 11 0 (gI q77.2 21 0 0).toNatClampNeg a1) 12 0 (gI (pI q77.2 11 0 (gI q77.2 21 0 0).toNatClampNeg a1) 21 0 0).toNatClampNeg a2) 21 0 0).toNatClampNeg a3) 21 0 0).toNatClampNeg a4) 21 0 0).toNatClampNeg a5) 21 0 0) + 1)) _ ((gI (pI (pI (pI (pI (pI (pI q77.2 11 0 (gI q77.2 21 0 0).toNatClampNeg a1) 12 0 (gI (pI q77.2 11 0 (gI q77.2 21 0 0).toNatClampNeg a1) 21 0 0).toNatClampNeg a2) 13 0 (gI (pI (pI q77.2 11 0 (gI q77.2 21 0 0).toNatClampNeg a1) 12 0 (gI (pI q77.2 11 0 (gI q77.2 21 0 0).toNatClampNeg a1) 21 0 0).toNatClampNeg a2) 21 0 0).toNatClampNeg a3) 14 0 (gI (pI (pI (pI q77.2 11 0 (gI q77.2 21 0 0).toNatClampNeg a1) 12 0 (gI (pI q77.2 11 0 (gI q77.2 21 0 0).toNatClampNeg a1) 21 0 0).toNatClampNeg a2) 13 0 (gI (pI (pI q77.2 11 0 (gI q77.2 21 0 0).toNatClampNeg a1) 12 0 (gI (pI q77.2 11 0 (gI q77.2 21 0 0).toNatClampNeg a1) 21 0 0).toNatClampNeg a2) 21 0 0).toNatClampNeg a3) 21 0 0).toNatClampNeg a4) 15 0 (gI (pI (pI (pI (pI q77.2 11 0 (gI q77.2 21 0 0).toNatClampNeg a1) 12 0 (gI (pI q77.2 11 0 (gI q77.2 21 0 0).toNatClampNeg a1) 21 0 0).toNatClampNeg a2) 13 0 (gI (pI (pI q77.2 11 0 (gI q77.2 21 0 0).toNatClampNeg a1) 12 0 (gI (pI q77.2 11 0 (gI q77.2 21 0 0).toNatClampNeg a1) 21 0 0).toNatClampNeg a2) 21 0 0).toNatClampNeg a3) 14 0 (gI (pI (pI (pI q77.2 11 0 (gI q77.2 21 0 0).toNatClampNeg a1) 12 0 (gI (pI q77.2 11 0 (gI q77.2 21 0 0).toNatClampNeg a1) 21 0 0).toNatClampNeg a2) 13 0 (gI (pI (pI q77.2 11 0 (gI q77.2 21 0 0).toNatClampNeg a1) 12 0 (gI (pI q77.2 11 0 (gI q77.2 21 0 0).toNatClampNeg a1) 21 0 0).toNatClampNeg a2) 21 0 0).toNatClampNeg a3) 21 0 0).toNatClampNeg a4) 21 0 0).toNatClampNeg a5) 21 0 0 ((gI (pI (pI (pI (pI (pI q77.2 11 0 (gI q77.2 21 0 0).toNatClampNeg a1) 12 0 (gI (pI q77.2 11 0 (gI q77.2 21 0 0).toNatClampNeg a1) 21 0 0).toNatClampNeg a2) 13 0 (gI (pI (pI q77.2 11 0 (gI q77.2 21 0 0).toNatClampNeg a1) 12 0 (gI (pI q77.2 11 0 (gI q77.2 21 0 0).toNatClampNeg a1) 21 0 0).toNatClampNeg a2) 21 0 0).toNatClampNeg a3) 14 0 (gI (pI (pI (pI q77.2 11 0 (gI q77.2 21 0 0).toNatClampNeg a1) 12 0 (gI (pI q77.2 11 0 (gI q77.2 21 0 0).toNatClampNeg a1) 21 0 0).toNatClampNeg a2) 13 0 (gI (pI (pI q77.2 11 0 (gI q77.2 21 0 0).toNatClampNeg a1) 12 0 (gI (pI q77.2 11 0 (gI q77.2 21 0 0).toNatClampNeg a1) 21 0 0).toNatClampNeg a2) 21 0 0).toNatClampNeg a3) 21 0 0).toNatClampNeg a4) 15 0 (gI (pI (pI (pI (pI q77.2 11 0 (gI q77.2 21 0 0).toNatClampNeg a1) 12 0 (gI (pI q77.2 11 0 (gI q77.2 21 0 0).toNatClampNeg a1) 21 0 0).toNatClampNeg a2) 13 0 (gI (pI (pI q77.2 11 0 (gI q77.2 21 0 0).toNatClampNeg a1) 12 0 (gI (pI q77.2 11 0 (gI q77.2 21 0 0).toNatClampNeg a1) 21 0 0).toNatClampNeg a2) 21 0 0).toNatClampNeg a3) 14 0 (gI (pI (pI (pI q77.2 11 0 (gI q77.2 21 0 0).toNatClampNeg a1) 12 0 (gI (pI q77.2 11 0 (gI q77.2 21 0 0).toNatClampNeg a1) 21 0 0).toNatClampNeg a2) 13 0 (gI (pI (pI q77.2 11 0 (gI q77.2 21 0 0).toNatClampNeg a1) 12 0 (gI (pI q77.2 11 0 (gI q77.2 21 0 0).toNatClampNeg a1) 21 0 0).toNatClampNeg a2) 21 0 0).toNatClampNeg a3) 21 0 0).toNatClampNeg a4) 21 0 0).toNatClampNeg a5) 21 0 0) + 1)) 21 0 0) - 1) q92 hcq92) (cwV 1 hts gX6_131 rfl rfl rfl (by decide +kernel) ⟨Nat.le_of_ble_eq_true rfl, Nat.le_of_ble_eq_true rfl⟩) (preV_of hR hK (f := 0) (i := 0) rfl rfl rfl _) rfl rfl hl.1 rfl (lv_room (Nat.le_of_ble_eq_true rfl)) dX6_place_153 ⟨Nat.zero_le _, Nat.zero_le _⟩) hA hR hS (fun H locs hR hS => ?_)
                  refine lv_aload_n hx hb dX6_place_156 rfl (lv_at hl 0 rfl) ?_
                  refine va_get (D := D) (ci := 7) (C := RX6) (T := TX6) (N := 22) hx hb hts iuX6 hown hK.1 (WW_one hR (f := 0) (i := 0) rfl) 0 rfl rfl 11 (by decide) (hts _ q_819) (fun _ h9 => h9) rfl dX6_place_157 ?_
                  refine lv_iconst (v := 1) hx hb dX6_place_160 (by decide) ?_
                  refine lv_isub hx hb dX6_place_161 ?_
                  cases hf
                  exact ret_i hC hR hS dX6_place_162
                · have hf := if_of_neg hf (fun q => q c85)
                  refine lv_aload_n hx hb dX6_place_78 rfl (lv_at hl 0 rfl) ?_
                  refine lv_iconst (v := 2) hx hb dX6_place_79 (by decide) ?_
                  obtain ⟨q93, hcq93, hf⟩ := bd_of hf
                  refine kc_i (va_runV (As := [.int 2]) (rest := []) ⟨hx, hb, hml, hown, hts⟩ (mX6_fails l D dA ad q77.2 _ 2 q93.1 q93.2 hcq93) (cwV 1 hts gX6_117 rfl rfl rfl (by decide +kernel) ⟨Nat.le_of_ble_eq_true rfl, Nat.le_of_ble_eq_true rfl⟩) (preV_of hR hK (f := 0) (i := 0) rfl rfl rfl _) rfl rfl hl.1 rfl (lv_room (Nat.le_of_ble_eq_true rfl)) dX6_place_80 ⟨Nat.zero_le _, Nat.zero_le _⟩) hA hR hS (fun H locs hR hS => ?_)
                  cases hf
                  exact ret_i hC hR hS dX6_place_83
          · have hf := if_of_neg hf (fun q => q c78)
            refine lv_iconst (v := 0) hx hb dX6_place_49 (by decide) ?_
            cases hf
            exact ret_i hC hR hS dX6_place_50
def fX6_cancel (σ : St) (a1 : Int32) : Option (Int32 × St) := bd (fX6_isOrder σ a1) (fun q1 => bd (fX6_asks σ q1) (fun q2 => if ¬ q2.1 = 0 then gd (vin a1 100) (if ¬ (gI q2.2 15 0 a1.toNatClampNeg) = 0 then kst (gI q2.2 15 0 a1.toNatClampNeg) (fun x6 => some ((x6, pI q2.2 15 0 a1.toNatClampNeg 0))) else bd (fX6_fails q2.2 2) (fun q7 => some ((q7.1, q7.2)))) else some ((0, q2.2))))
set_option maxHeartbeats 4000000 in
set_option maxRecDepth 100000 in
theorem mX6_cancel (l : Launch) (D : va_G) (dA : Nat → ClassId) (ad : Nat → Nat → Nat) (σ : St) (sz : Nat) (a1 : Int32) (r : Int32) (σ' : St) (hf : fX6_cancel σ a1 = some (r, σ')) : Met l yX6_cancel (WSy yX6_cancel cX6_cancel 3 (some .int)) ({ frames := 1, cells := 0, slots := 0, locals := 21 } : Room) (va_Pc [.ref (ad 0 0), .int a1] (fun U => U.heap.size = sz ∧ HM D dA (fun _ => True) ad σ U.heap ∧ KS D dA U)) (va_Qi (fun (x : Int32) (_ : Unit) => x = r) (fun _ t => HM D dA (WA ad (cvM σ) sz) ad σ' t.heap) (WA ad (cvM σ) sz)) 0 0 (WA ad (cvM σ) sz) := by
  refine met_of (by decide) (Nat.le_of_ble_eq_true rfl) ?_
  intro p e s m below meth c ls hC hB hl
  obtain ⟨rfl, hR, hK⟩ := hB
  have hA : ∀ q : Nat, s.heap.size ≤ q → WA ad (cvM σ) s.heap.size q := fun q h => Or.inr h
  have hR := WW_fit (B := WA ad (cvM σ) s.heap.size) hR (fun f i h => WA_in h)
  have hS : va_S (WA ad (cvM σ) s.heap.size) s.heap s.heap [] := va_S.rf
  generalize WA ad (cvM σ) s.heap.size = A0 at hA hR hS ⊢
  have hC : CTX p s m _ meth c cX6_cancel 3 RX6 (some .int) := hC
  obtain ⟨hx, hb, hml, hown, hts, hr, hlk⟩ := id hC
  have hl : lv_has ls 3 [(0, .ref (ad 0 0)), (1, .int a1)] := hl
  unfold fX6_cancel at hf
  refine lv_aload_n hx hb dX6_cancel_0 rfl (lv_at hl 0 rfl) ?_
  refine lv_aload_n hx hb dX6_cancel_1 rfl (lv_at hl 0 rfl) ?_
  refine lv_iload_n hx hb dX6_cancel_2 rfl (lv_at hl 1 rfl) ?_
  obtain ⟨q1, hcq1, hf⟩ := bd_of hf
  refine kc_i (va_runV (As := [.int a1]) (rest := [.ref (ad 0 0)]) ⟨hx, hb, hml, hown, hts⟩ (mX6_isOrder l D dA ad σ _ a1 q1 hcq1) (cwV 1 hts gX6_135 rfl rfl rfl (by decide +kernel) ⟨Nat.le_of_ble_eq_true rfl, Nat.le_of_ble_eq_true rfl⟩) (preV_of hR hK (f := 0) (i := 0) rfl rfl rfl _) rfl rfl hl.1 rfl (lv_room (Nat.le_of_ble_eq_true rfl)) dX6_cancel_3 ⟨Nat.zero_le _, Nat.zero_le _⟩) hA hR hS (fun H locs hR hS => ?_)
  obtain ⟨q2, hcq2, hf⟩ := bd_of hf
  refine kc_i (va_runV (As := [.int q1]) (rest := []) ⟨hx, hb, hml, hown, hts⟩ (mX6_asks l D dA ad σ _ q1 q2.1 q2.2 hcq2) (cwV 1 hts gX6_78 rfl rfl rfl (by decide +kernel) ⟨Nat.le_of_ble_eq_true rfl, Nat.le_of_ble_eq_true rfl⟩) (preV_of hR hK (f := 0) (i := 0) rfl rfl rfl _) rfl rfl hl.1 rfl (lv_room (Nat.le_of_ble_eq_true rfl)) dX6_cancel_6 ⟨Nat.zero_le _, Nat.zero_le _⟩) hA hR hS (fun H locs hR hS => ?_)
  refine lv_if_ne (tgt := 14) hx hb dX6_cancel_9 (by decide) (fun c3 => ?_) (fun c3 => ?_)
  · have hf := if_of_pos hf c3
    refine lv_aload_n hx hb dX6_cancel_14 rfl (lv_at hl 0 rfl) ?_
    refine va_get (D := D) (ci := 7) (C := RX6) (T := TX6) (N := 22) hx hb hts iuX6 hown hK.1 (WW_one hR (f := 0) (i := 0) rfl) 0 rfl rfl 16 (by decide) (hts _ q_824) (fun _ h9 => h9) rfl dX6_cancel_15 ?_
    refine lv_iload_n hx hb dX6_cancel_18 rfl (lv_at hl 1 rfl) ?_
    obtain ⟨g4, hf⟩ := gd_of hf
    refine va_iald hx hb hK.1 (WW_one hR (f := 15) (i := 0) rfl) 0 0 rfl rfl g4 dX6_cancel_19 ?_
    refine lv_if_ne (tgt := 29) hx hb dX6_cancel_20 (by decide) (fun c5 => ?_) (fun c5 => ?_)
    · have hf := if_of_pos hf c5
      refine lv_aload_n hx hb dX6_cancel_29 rfl (lv_at hl 0 rfl) ?_
      refine va_get (D := D) (ci := 7) (C := RX6) (T := TX6) (N := 22) hx hb hts iuX6 hown hK.1 (WW_one hR (f := 0) (i := 0) rfl) 0 rfl rfl 16 (by decide) (hts _ q_824) (fun _ h9 => h9) rfl dX6_cancel_30 ?_
      refine lv_iload_n hx hb dX6_cancel_33 rfl (lv_at hl 1 rfl) ?_
      refine va_iald hx hb hK.1 (WW_one hR (f := 15) (i := 0) rfl) 0 0 rfl rfl g4 dX6_cancel_34 ?_
      refine lv_topi (fun x6 hx6 => ?_)
      have hf := kst_eq hx6 hf
      refine lv_istore_n (lv' := [(2, .int x6), (0, .ref (ad 0 0)), (1, .int a1)]) hx hb dX6_cancel_35 rfl hl (by decide) rfl (fun ls hl => ?_)
      refine lv_aload_n hx hb dX6_cancel_36 rfl (lv_at hl 1 rfl) ?_
      refine va_get (D := D) (ci := 7) (C := RX6) (T := TX6) (N := 22) hx hb hts iuX6 hown hK.1 (WW_one hR (f := 0) (i := 0) rfl) 0 rfl rfl 16 (by decide) (hts _ q_824) (fun _ h9 => h9) rfl dX6_cancel_37 ?_
      refine lv_iload_n hx hb dX6_cancel_40 rfl (lv_at hl 2 rfl) ?_
      refine lv_iconst (v := 0) hx hb dX6_cancel_41 (by decide) ?_
      refine ww_iast hx hb hK.1 hR hS 0 (f := 15) (j := 0) rfl rfl rfl g4 dX6_cancel_42 (fun H locs hR hS => ?_)
      have hR := HM_row15 0 (a1.toNatClampNeg) 0 hR
      refine lv_iload_n hx hb dX6_cancel_43 rfl (lv_at hl 0 rfl) ?_
      cases hf
      exact ret_i hC hR hS dX6_cancel_44
    · have hf := if_of_neg hf (fun q => q c5)
      refine lv_aload_n hx hb dX6_cancel_23 rfl (lv_at hl 0 rfl) ?_
      refine lv_iconst (v := 2) hx hb dX6_cancel_24 (by decide) ?_
      obtain ⟨q7, hcq7, hf⟩ := bd_of hf
      refine kc_i (va_runV (As := [.int 2]) (rest := []) ⟨hx, hb, hml, hown, hts⟩ (mX6_fails l D dA ad q2.2 _ 2 q7.1 q7.2 hcq7) (cwV 1 hts gX6_117 rfl rfl rfl (by decide +kernel) ⟨Nat.le_of_ble_eq_true rfl, Nat.le_of_ble_eq_true rfl⟩) (preV_of hR hK (f := 0) (i := 0) rfl rfl rfl _) rfl rfl hl.1 rfl (lv_room (Nat.le_of_ble_eq_true rfl)) dX6_cancel_25 ⟨Nat.zero_le _, Nat.zero_le _⟩) hA hR hS (fun H locs hR hS => ?_)
      cases hf
      exact ret_i hC hR hS dX6_cancel_28
  · have hf := if_of_neg hf (fun q => q c3)
    refine lv_iconst (v := 0) hx hb dX6_cancel_12 (by decide) ?_
    cases hf
    exact ret_i hC hR hS dX6_cancel_13
def fX6_halt_L18 : Nat → St → Int32 → Int32 → Int32 → Int32 → Option (Int32 × St)
  | 0, _, _, _, _, _ => none
  | n + 1, σ, v4, v3, v1, v2 => if (gI σ 21 0 0) ≤ v4 then gd (vin v1 3) (gd (bz v2) (some ((v3, pI σ 16 0 v1.toNatClampNeg v2)))) else if v2 = 0 then gd (vin v1 3) (gd (bz v2) (some ((v3, pI σ 16 0 v1.toNatClampNeg v2)))) else gd (vin v4 100) (if ¬ (gI σ 12 0 v4.toNatClampNeg) = v1 then kst (v4 + 1) (fun x12 => fX6_halt_L18 n σ x12 v3 v1 v2) else if (gI σ 15 0 v4.toNatClampNeg) ≤ 0 then kst (v4 + 1) (fun x14 => fX6_halt_L18 n σ x14 v3 v1 v2) else kst (v3 + 1) (fun x15 => kst (v4 + 1) (fun x16 => fX6_halt_L18 n (pI σ 15 0 v4.toNatClampNeg 0) x16 x15 v1 v2)))
set_option maxHeartbeats 4000000 in
set_option maxRecDepth 100000 in
theorem wX6_halt_L18 {p : Program} {l : Launch} {e : Env} {s : State} {m : MethodId} {args : Array Value} {below : List Frame} {meth : Method} {c : Code} {D : va_G} {dA : Nat → ClassId} {A0 : Nat → Prop} {ad : Nat → Nat → Nat} {r : Int32} {σ' : St}  (hC : CTX p s m args meth c cX6_halt 5 RX6 (some .int)) (hK : KS D dA s) (hA : ∀ q, s.heap.size ≤ q → A0 q) : ∀ (n : Nat) (H : Heap) (locs : List Loc) (ls : Array Slot) (σ : St) (v4 : Int32) (v3 : Int32) (v1 : Int32) (v2 : Int32), HM D dA A0 ad σ H → va_S A0 s.heap H locs → lv_has ls 5 [(4, .int v4), (3, .int v3), (0, .ref (ad 0 0)), (1, .int v1), (2, .int v2)] → fX6_halt_L18 n σ v4 v3 v1 v2 = some (r, σ') → W p l e ({ frames := 1, cells := 0, slots := 0, locals := 21 } : Room) s m args below meth c H locs 0 0 (MQ below (va_Qi (fun (x : Int32) (_ : Unit) => x = r) (fun _ t => HM D dA A0 ad σ' t.heap) A0) args s 0 0 A0) (F0 m 18 ls []) := by
  obtain ⟨hx, hb, hml, hown, hts, hr, hlk⟩ := id hC
  intro n
  induction n with
  | zero =>
    intro H locs ls σ v4 v3 v1 v2 hR hS hl hf
    rw [fX6_halt_L18.eq_1] at hf
    cases hf
  | succ n ih =>
    intro H locs ls σ v4 v3 v1 v2 hR hS hl hf
    rw [fX6_halt_L18.eq_2] at hf
    refine lv_iload hx hb dX6_halt_18 (lv_at hl 0 rfl) ?_
    refine lv_aload_n hx hb dX6_halt_20 rfl (lv_at hl 2 rfl) ?_
    refine va_get (D := D) (ci := 7) (C := RX6) (T := TX6) (N := 22) hx hb hts iuX6 hown hK.1 (WW_one hR (f := 0) (i := 0) rfl) 0 rfl rfl 11 (by decide) (hts _ q_819) (fun _ h9 => h9) rfl dX6_halt_21 ?_
    refine lv_icmp_ge (tgt := 69) hx hb dX6_halt_24 (by decide) (fun c4 => ?_) (fun c4 => ?_)
    · have hf := if_of_pos hf c4
      refine lv_aload_n hx hb dX6_halt_69 rfl (lv_at hl 2 rfl) ?_
      refine va_get (D := D) (ci := 7) (C := RX6) (T := TX6) (N := 22) hx hb hts iuX6 hown hK.1 (WW_one hR (f := 0) (i := 0) rfl) 0 rfl rfl 17 (by decide) (hts _ q_825) (fun _ h9 => h9) rfl dX6_halt_70 ?_
      refine lv_iload_n hx hb dX6_halt_73 rfl (lv_at hl 3 rfl) ?_
      refine lv_iload_n hx hb dX6_halt_74 rfl (lv_at hl 4 rfl) ?_
      obtain ⟨g5, hf⟩ := gd_of hf
      obtain ⟨g6, hf⟩ := gd_of hf
      refine ww_zast hx hb hK.1 hR hS 2 (f := 16) (j := 0) rfl rfl rfl (bz_vp g6) g5 dX6_halt_75 (fun H locs hR hS => ?_)
      have hR := HM_row16 0 (v1.toNatClampNeg) v2 hR
      refine lv_iload_n hx hb dX6_halt_76 rfl (lv_at hl 1 rfl) ?_
      cases hf
      exact ret_i hC hR hS dX6_halt_77
    · have hf := if_of_neg hf c4
      refine lv_iload_n hx hb dX6_halt_27 rfl (lv_at hl 4 rfl) ?_
      refine lv_if_eq (tgt := 69) hx hb dX6_halt_28 (by decide) (fun c7 => ?_) (fun c7 => ?_)
      · have hf := if_of_pos hf c7
        refine lv_aload_n hx hb dX6_halt_69 rfl (lv_at hl 2 rfl) ?_
        refine va_get (D := D) (ci := 7) (C := RX6) (T := TX6) (N := 22) hx hb hts iuX6 hown hK.1 (WW_one hR (f := 0) (i := 0) rfl) 0 rfl rfl 17 (by decide) (hts _ q_825) (fun _ h9 => h9) rfl dX6_halt_70 ?_
        refine lv_iload_n hx hb dX6_halt_73 rfl (lv_at hl 3 rfl) ?_
        refine lv_iload_n hx hb dX6_halt_74 rfl (lv_at hl 4 rfl) ?_
        obtain ⟨g8, hf⟩ := gd_of hf
        obtain ⟨g9, hf⟩ := gd_of hf
        refine ww_zast hx hb hK.1 hR hS 2 (f := 16) (j := 0) rfl rfl rfl (bz_vp g9) g8 dX6_halt_75 (fun H locs hR hS => ?_)
        have hR := HM_row16 0 (v1.toNatClampNeg) v2 hR
        refine lv_iload_n hx hb dX6_halt_76 rfl (lv_at hl 1 rfl) ?_
        cases hf
        exact ret_i hC hR hS dX6_halt_77
      · have hf := if_of_neg hf c7
        refine lv_aload_n hx hb dX6_halt_31 rfl (lv_at hl 2 rfl) ?_
        refine va_get (D := D) (ci := 7) (C := RX6) (T := TX6) (N := 22) hx hb hts iuX6 hown hK.1 (WW_one hR (f := 0) (i := 0) rfl) 0 rfl rfl 13 (by decide) (hts _ q_821) (fun _ h9 => h9) rfl dX6_halt_32 ?_
        refine lv_iload hx hb dX6_halt_35 (lv_at hl 0 rfl) ?_
        obtain ⟨g10, hf⟩ := gd_of hf
        refine va_iald hx hb hK.1 (WW_one hR (f := 12) (i := 0) rfl) 0 0 rfl rfl g10 dX6_halt_37 ?_
        refine lv_iload_n hx hb dX6_halt_38 rfl (lv_at hl 3 rfl) ?_
        refine lv_icmp_ne (tgt := 63) hx hb dX6_halt_39 (by decide) (fun c11 => ?_) (fun c11 => ?_)
        · have hf := if_of_pos hf c11
          obtain ⟨x12, hx12⟩ : ∃ y : Int32, y = v4 + 1 := ⟨_, rfl⟩
          have hf := kst_eq hx12 hf
          refine lv_iinc (v := x12) (lv' := [(4, .int x12), (3, .int v3), (0, .ref (ad 0 0)), (1, .int v1), (2, .int v2)]) hx hb dX6_halt_63 hl (k := 0) rfl (by rw [hx12]; rfl) (by decide) rfl (fun ls hl => ?_)
          refine lv_goto (tgt := 18) hx hb dX6_halt_66 (by decide) ?_
          exact ih _ _ _ σ x12 v3 v1 v2 hR hS (lv_sub hl [0, 1, 2, 3, 4] rfl) hf
        · have hf := if_of_neg hf (fun q => q c11)
          refine lv_aload_n hx hb dX6_halt_42 rfl (lv_at hl 2 rfl) ?_
          refine va_get (D := D) (ci := 7) (C := RX6) (T := TX6) (N := 22) hx hb hts iuX6 hown hK.1 (WW_one hR (f := 0) (i := 0) rfl) 0 rfl rfl 16 (by decide) (hts _ q_824) (fun _ h9 => h9) rfl dX6_halt_43 ?_
          refine lv_iload hx hb dX6_halt_46 (lv_at hl 0 rfl) ?_
          refine va_iald hx hb hK.1 (WW_one hR (f := 15) (i := 0) rfl) 0 0 rfl rfl g10 dX6_halt_48 ?_
          refine lv_if_le (tgt := 63) hx hb dX6_halt_49 (by decide) (fun c13 => ?_) (fun c13 => ?_)
          · have hf := if_of_pos hf c13
            obtain ⟨x14, hx14⟩ : ∃ y : Int32, y = v4 + 1 := ⟨_, rfl⟩
            have hf := kst_eq hx14 hf
            refine lv_iinc (v := x14) (lv' := [(4, .int x14), (3, .int v3), (0, .ref (ad 0 0)), (1, .int v1), (2, .int v2)]) hx hb dX6_halt_63 hl (k := 0) rfl (by rw [hx14]; rfl) (by decide) rfl (fun ls hl => ?_)
            refine lv_goto (tgt := 18) hx hb dX6_halt_66 (by decide) ?_
            exact ih _ _ _ σ x14 v3 v1 v2 hR hS (lv_sub hl [0, 1, 2, 3, 4] rfl) hf
          · have hf := if_of_neg hf c13
            refine lv_aload_n hx hb dX6_halt_52 rfl (lv_at hl 2 rfl) ?_
            refine va_get (D := D) (ci := 7) (C := RX6) (T := TX6) (N := 22) hx hb hts iuX6 hown hK.1 (WW_one hR (f := 0) (i := 0) rfl) 0 rfl rfl 16 (by decide) (hts _ q_824) (fun _ h9 => h9) rfl dX6_halt_53 ?_
            refine lv_iload hx hb dX6_halt_56 (lv_at hl 0 rfl) ?_
            refine lv_iconst (v := 0) hx hb dX6_halt_58 (by decide) ?_
            refine ww_iast hx hb hK.1 hR hS 0 (f := 15) (j := 0) rfl rfl rfl g10 dX6_halt_59 (fun H locs hR hS => ?_)
            have hR := HM_row15 0 (v4.toNatClampNeg) 0 hR
            obtain ⟨x15, hx15⟩ : ∃ y : Int32, y = v3 + 1 := ⟨_, rfl⟩
            have hf := kst_eq hx15 hf
            refine lv_iinc (v := x15) (lv' := [(3, .int x15), (4, .int v4), (0, .ref (ad 0 0)), (1, .int v1), (2, .int v2)]) hx hb dX6_halt_60 hl (k := 1) rfl (by rw [hx15]; rfl) (by decide) rfl (fun ls hl => ?_)
            obtain ⟨x16, hx16⟩ : ∃ y : Int32, y = v4 + 1 := ⟨_, rfl⟩
            have hf := kst_eq hx16 hf
            refine lv_iinc (v := x16) (lv' := [(4, .int x16), (3, .int x15), (0, .ref (ad 0 0)), (1, .int v1), (2, .int v2)]) hx hb dX6_halt_63 hl (k := 1) rfl (by rw [hx16]; rfl) (by decide) rfl (fun ls hl => ?_)
            refine lv_goto (tgt := 18) hx hb dX6_halt_66 (by decide) ?_
            exact ih _ _ _ (pI σ 15 0 v4.toNatClampNeg 0) x16 x15 v1 v2 hR hS (lv_sub hl [0, 1, 2, 3, 4] rfl) hf
def fX6_halt (σ : St) (a1 : Int32) (a2 : Int32) : Option (Int32 × St) := bd (fX6_isProduct σ a1) (fun q1 => bd (fX6_asks σ q1) (fun q2 => if ¬ q2.1 = 0 then fX6_halt_L18 1000 q2.2 0 0 a1 a2 else some ((0, q2.2))))
set_option maxHeartbeats 4000000 in
set_option maxRecDepth 100000 in
theorem mX6_halt (l : Launch) (D : va_G) (dA : Nat → ClassId) (ad : Nat → Nat → Nat) (σ : St) (sz : Nat) (a1 : Int32) (a2 : Int32) (r : Int32) (σ' : St) (hf : fX6_halt σ a1 a2 = some (r, σ')) : Met l yX6_halt (WSy yX6_halt cX6_halt 5 (some .int)) ({ frames := 1, cells := 0, slots := 0, locals := 21 } : Room) (va_Pc [.ref (ad 0 0), .int a1, .int a2] (fun U => U.heap.size = sz ∧ HM D dA (fun _ => True) ad σ U.heap ∧ KS D dA U)) (va_Qi (fun (x : Int32) (_ : Unit) => x = r) (fun _ t => HM D dA (WA ad (cvM σ) sz) ad σ' t.heap) (WA ad (cvM σ) sz)) 0 0 (WA ad (cvM σ) sz) := by
  refine met_of (by decide) (Nat.le_of_ble_eq_true rfl) ?_
  intro p e s m below meth c ls hC hB hl
  obtain ⟨rfl, hR, hK⟩ := hB
  have hA : ∀ q : Nat, s.heap.size ≤ q → WA ad (cvM σ) s.heap.size q := fun q h => Or.inr h
  have hR := WW_fit (B := WA ad (cvM σ) s.heap.size) hR (fun f i h => WA_in h)
  have hS : va_S (WA ad (cvM σ) s.heap.size) s.heap s.heap [] := va_S.rf
  generalize WA ad (cvM σ) s.heap.size = A0 at hA hR hS ⊢
  have hC : CTX p s m _ meth c cX6_halt 5 RX6 (some .int) := hC
  obtain ⟨hx, hb, hml, hown, hts, hr, hlk⟩ := id hC
  have hl : lv_has ls 5 [(0, .ref (ad 0 0)), (1, .int a1), (2, .int a2)] := hl
  unfold fX6_halt at hf
  refine lv_aload_n hx hb dX6_halt_0 rfl (lv_at hl 0 rfl) ?_
  refine lv_iload_n hx hb dX6_halt_1 rfl (lv_at hl 1 rfl) ?_
  obtain ⟨q1, hcq1, hf⟩ := bd_of hf
  refine kc_i (va_runS (As := [.int a1]) (rest := [.ref (ad 0 0)]) ⟨hx, hb, hml, hown, hts⟩ (mX6_isProduct l D dA ad σ _ a1 q1 hcq1) (va_cwS 1 hts gX6_70 rfl rfl rfl (by decide +kernel) ⟨Nat.le_of_ble_eq_true rfl, Nat.le_of_ble_eq_true rfl⟩) (preS_of hR hK _) rfl rfl hl.1 rfl (lv_room (Nat.le_of_ble_eq_true rfl)) dX6_halt_2 ⟨Nat.zero_le _, Nat.zero_le _⟩) hA hR hS (fun H locs hR hS => ?_)
  obtain ⟨q2, hcq2, hf⟩ := bd_of hf
  refine kc_i (va_runV (As := [.int q1]) (rest := []) ⟨hx, hb, hml, hown, hts⟩ (mX6_asks l D dA ad σ _ q1 q2.1 q2.2 hcq2) (cwV 1 hts gX6_78 rfl rfl rfl (by decide +kernel) ⟨Nat.le_of_ble_eq_true rfl, Nat.le_of_ble_eq_true rfl⟩) (preV_of hR hK (f := 0) (i := 0) rfl rfl rfl _) rfl rfl hl.1 rfl (lv_room (Nat.le_of_ble_eq_true rfl)) dX6_halt_5 ⟨Nat.zero_le _, Nat.zero_le _⟩) hA hR hS (fun H locs hR hS => ?_)
  refine lv_if_ne (tgt := 13) hx hb dX6_halt_8 (by decide) (fun c3 => ?_) (fun c3 => ?_)
  · have hf := if_of_pos hf c3
    refine lv_iconst (v := 0) hx hb dX6_halt_13 (by decide) ?_
    refine lv_istore_n (lv' := [(3, .int 0), (0, .ref (ad 0 0)), (1, .int a1), (2, .int a2)]) hx hb dX6_halt_14 rfl hl (by decide) rfl (fun ls hl => ?_)
    refine lv_iconst (v := 0) hx hb dX6_halt_15 (by decide) ?_
    refine lv_istore (lv' := [(4, .int 0), (3, .int 0), (0, .ref (ad 0 0)), (1, .int a1), (2, .int a2)]) hx hb dX6_halt_16 hl (by decide) rfl (fun ls hl => ?_)
    exact wX6_halt_L18 hC hK hA 1000 _ _ _ q2.2 0 0 a1 a2 hR hS (lv_sub hl [0, 1, 2, 3, 4] rfl) hf
  · have hf := if_of_neg hf (fun q => q c3)
    refine lv_iconst (v := 0) hx hb dX6_halt_11 (by decide) ?_
    cases hf
    exact ret_i hC hR hS dX6_halt_12
def fX6_left (σ : St) (a1 : Int32) : Option (Int32 × St) := bd (fX6_isOrder σ a1) (fun q1 => bd (fX6_asks σ q1) (fun q2 => if q2.1 = 0 then some ((0, q2.2)) else gd (vin a1 100) (some ((gI q2.2 15 0 a1.toNatClampNeg, q2.2)))))
set_option maxHeartbeats 4000000 in
set_option maxRecDepth 100000 in
theorem mX6_left (l : Launch) (D : va_G) (dA : Nat → ClassId) (ad : Nat → Nat → Nat) (σ : St) (sz : Nat) (a1 : Int32) (r : Int32) (σ' : St) (hf : fX6_left σ a1 = some (r, σ')) : Met l yX6_left (WSy yX6_left cX6_left 2 (some .int)) ({ frames := 1, cells := 0, slots := 0, locals := 21 } : Room) (va_Pc [.ref (ad 0 0), .int a1] (fun U => U.heap.size = sz ∧ HM D dA (fun _ => True) ad σ U.heap ∧ KS D dA U)) (va_Qi (fun (x : Int32) (_ : Unit) => x = r) (fun _ t => HM D dA (WA ad (cvM σ) sz) ad σ' t.heap) (WA ad (cvM σ) sz)) 0 0 (WA ad (cvM σ) sz) := by
  refine met_of (by decide) (Nat.le_of_ble_eq_true rfl) ?_
  intro p e s m below meth c ls hC hB hl
  obtain ⟨rfl, hR, hK⟩ := hB
  have hA : ∀ q : Nat, s.heap.size ≤ q → WA ad (cvM σ) s.heap.size q := fun q h => Or.inr h
  have hR := WW_fit (B := WA ad (cvM σ) s.heap.size) hR (fun f i h => WA_in h)
  have hS : va_S (WA ad (cvM σ) s.heap.size) s.heap s.heap [] := va_S.rf
  generalize WA ad (cvM σ) s.heap.size = A0 at hA hR hS ⊢
  have hC : CTX p s m _ meth c cX6_left 2 RX6 (some .int) := hC
  obtain ⟨hx, hb, hml, hown, hts, hr, hlk⟩ := id hC
  have hl : lv_has ls 2 [(0, .ref (ad 0 0)), (1, .int a1)] := hl
  unfold fX6_left at hf
  refine lv_aload_n hx hb dX6_left_0 rfl (lv_at hl 0 rfl) ?_
  refine lv_aload_n hx hb dX6_left_1 rfl (lv_at hl 0 rfl) ?_
  refine lv_iload_n hx hb dX6_left_2 rfl (lv_at hl 1 rfl) ?_
  obtain ⟨q1, hcq1, hf⟩ := bd_of hf
  refine kc_i (va_runV (As := [.int a1]) (rest := [.ref (ad 0 0)]) ⟨hx, hb, hml, hown, hts⟩ (mX6_isOrder l D dA ad σ _ a1 q1 hcq1) (cwV 1 hts gX6_135 rfl rfl rfl (by decide +kernel) ⟨Nat.le_of_ble_eq_true rfl, Nat.le_of_ble_eq_true rfl⟩) (preV_of hR hK (f := 0) (i := 0) rfl rfl rfl _) rfl rfl hl.1 rfl (lv_room (Nat.le_of_ble_eq_true rfl)) dX6_left_3 ⟨Nat.zero_le _, Nat.zero_le _⟩) hA hR hS (fun H locs hR hS => ?_)
  obtain ⟨q2, hcq2, hf⟩ := bd_of hf
  refine kc_i (va_runV (As := [.int q1]) (rest := []) ⟨hx, hb, hml, hown, hts⟩ (mX6_asks l D dA ad σ _ q1 q2.1 q2.2 hcq2) (cwV 1 hts gX6_78 rfl rfl rfl (by decide +kernel) ⟨Nat.le_of_ble_eq_true rfl, Nat.le_of_ble_eq_true rfl⟩) (preV_of hR hK (f := 0) (i := 0) rfl rfl rfl _) rfl rfl hl.1 rfl (lv_room (Nat.le_of_ble_eq_true rfl)) dX6_left_6 ⟨Nat.zero_le _, Nat.zero_le _⟩) hA hR hS (fun H locs hR hS => ?_)
  refine lv_if_eq (tgt := 21) hx hb dX6_left_9 (by decide) (fun c3 => ?_) (fun c3 => ?_)
  · have hf := if_of_pos hf c3
    refine lv_iconst (v := 0) hx hb dX6_left_21 (by decide) ?_
    cases hf
    exact ret_i hC hR hS dX6_left_22
  · have hf := if_of_neg hf c3
    refine lv_aload_n hx hb dX6_left_12 rfl (lv_at hl 0 rfl) ?_
    refine va_get (D := D) (ci := 7) (C := RX6) (T := TX6) (N := 22) hx hb hts iuX6 hown hK.1 (WW_one hR (f := 0) (i := 0) rfl) 0 rfl rfl 16 (by decide) (hts _ q_824) (fun _ h9 => h9) rfl dX6_left_13 ?_
    refine lv_iload_n hx hb dX6_left_16 rfl (lv_at hl 1 rfl) ?_
    obtain ⟨g4, hf⟩ := gd_of hf
    refine va_iald hx hb hK.1 (WW_one hR (f := 15) (i := 0) rfl) 0 0 rfl rfl g4 dX6_left_17 ?_
    refine lv_goto (tgt := 22) hx hb dX6_left_18 (by decide) ?_
    cases hf
    exact ret_i hC hR hS dX6_left_22
def fX6_best (σ : St) (a1 : Int32) (a2 : Int32) : Option (Int32 × St) := bd (fX6_isProduct σ a1) (fun q1 => bd (fX6_asks σ q1) (fun q2 => if ¬ q2.1 = 0 then bd (fX6_bestOf q2.2 a1 a2) (fun q4 => if ¬ q4 = (-1) then some ((q4, q2.2)) else bd (fX6_fails q2.2 2) (fun q6 => some ((q6.1, q6.2)))) else some ((0, q2.2))))
set_option maxHeartbeats 4000000 in
set_option maxRecDepth 100000 in
theorem mX6_best (l : Launch) (D : va_G) (dA : Nat → ClassId) (ad : Nat → Nat → Nat) (σ : St) (sz : Nat) (a1 : Int32) (a2 : Int32) (r : Int32) (σ' : St) (hf : fX6_best σ a1 a2 = some (r, σ')) : Met l yX6_best (WSy yX6_best cX6_best 4 (some .int)) ({ frames := 1, cells := 0, slots := 0, locals := 25 } : Room) (va_Pc [.ref (ad 0 0), .int a1, .int a2] (fun U => U.heap.size = sz ∧ HM D dA (fun _ => True) ad σ U.heap ∧ KS D dA U)) (va_Qi (fun (x : Int32) (_ : Unit) => x = r) (fun _ t => HM D dA (WA ad (cvM σ) sz) ad σ' t.heap) (WA ad (cvM σ) sz)) 0 0 (WA ad (cvM σ) sz) := by
  refine met_of (by decide) (Nat.le_of_ble_eq_true rfl) ?_
  intro p e s m below meth c ls hC hB hl
  obtain ⟨rfl, hR, hK⟩ := hB
  have hA : ∀ q : Nat, s.heap.size ≤ q → WA ad (cvM σ) s.heap.size q := fun q h => Or.inr h
  have hR := WW_fit (B := WA ad (cvM σ) s.heap.size) hR (fun f i h => WA_in h)
  have hS : va_S (WA ad (cvM σ) s.heap.size) s.heap s.heap [] := va_S.rf
  generalize WA ad (cvM σ) s.heap.size = A0 at hA hR hS ⊢
  have hC : CTX p s m _ meth c cX6_best 4 RX6 (some .int) := hC
  obtain ⟨hx, hb, hml, hown, hts, hr, hlk⟩ := id hC
  have hl : lv_has ls 4 [(0, .ref (ad 0 0)), (1, .int a1), (2, .int a2)] := hl
  unfold fX6_best at hf
  refine lv_aload_n hx hb dX6_best_0 rfl (lv_at hl 0 rfl) ?_
  refine lv_iload_n hx hb dX6_best_1 rfl (lv_at hl 1 rfl) ?_
  obtain ⟨q1, hcq1, hf⟩ := bd_of hf
  refine kc_i (va_runS (As := [.int a1]) (rest := [.ref (ad 0 0)]) ⟨hx, hb, hml, hown, hts⟩ (mX6_isProduct l D dA ad σ _ a1 q1 hcq1) (va_cwS 1 hts gX6_70 rfl rfl rfl (by decide +kernel) ⟨Nat.le_of_ble_eq_true rfl, Nat.le_of_ble_eq_true rfl⟩) (preS_of hR hK _) rfl rfl hl.1 rfl (lv_room (Nat.le_of_ble_eq_true rfl)) dX6_best_2 ⟨Nat.zero_le _, Nat.zero_le _⟩) hA hR hS (fun H locs hR hS => ?_)
  obtain ⟨q2, hcq2, hf⟩ := bd_of hf
  refine kc_i (va_runV (As := [.int q1]) (rest := []) ⟨hx, hb, hml, hown, hts⟩ (mX6_asks l D dA ad σ _ q1 q2.1 q2.2 hcq2) (cwV 1 hts gX6_78 rfl rfl rfl (by decide +kernel) ⟨Nat.le_of_ble_eq_true rfl, Nat.le_of_ble_eq_true rfl⟩) (preV_of hR hK (f := 0) (i := 0) rfl rfl rfl _) rfl rfl hl.1 rfl (lv_room (Nat.le_of_ble_eq_true rfl)) dX6_best_5 ⟨Nat.zero_le _, Nat.zero_le _⟩) hA hR hS (fun H locs hR hS => ?_)
  refine lv_if_ne (tgt := 13) hx hb dX6_best_8 (by decide) (fun c3 => ?_) (fun c3 => ?_)
  · have hf := if_of_pos hf c3
    refine lv_aload_n hx hb dX6_best_13 rfl (lv_at hl 0 rfl) ?_
    refine lv_iload_n hx hb dX6_best_14 rfl (lv_at hl 1 rfl) ?_
    refine lv_iload_n hx hb dX6_best_15 rfl (lv_at hl 2 rfl) ?_
    obtain ⟨q4, hcq4, hf⟩ := bd_of hf
    refine kc_i (va_runV (As := [.int a1, .int a2]) (rest := []) ⟨hx, hb, hml, hown, hts⟩ (mX6_bestOf l D dA ad q2.2 _ a1 a2 q4 hcq4) (cwV 2 hts gX6_123 rfl rfl rfl (by decide +kernel) ⟨Nat.le_of_ble_eq_true rfl, Nat.le_of_ble_eq_true rfl⟩) (preV_of hR hK (f := 0) (i := 0) rfl rfl rfl _) rfl rfl hl.1 rfl (lv_room (Nat.le_of_ble_eq_true rfl)) dX6_best_16 ⟨Nat.zero_le _, Nat.zero_le _⟩) hA hR hS (fun H locs hR hS => ?_)
    refine lv_istore_n (lv' := [(3, .int q4), (0, .ref (ad 0 0)), (1, .int a1), (2, .int a2)]) hx hb dX6_best_19 rfl hl (by decide) rfl (fun ls hl => ?_)
    refine lv_iload_n hx hb dX6_best_20 rfl (lv_at hl 0 rfl) ?_
    refine lv_iconst (v := (-1)) hx hb dX6_best_21 (by decide) ?_
    refine lv_icmp_ne (tgt := 33) hx hb dX6_best_22 (by decide) (fun c5 => ?_) (fun c5 => ?_)
    · have hf := if_of_pos hf c5
      refine lv_iload_n hx hb dX6_best_33 rfl (lv_at hl 0 rfl) ?_
      cases hf
      exact ret_i hC hR hS dX6_best_34
    · have hf := if_of_neg hf (fun q => q c5)
      refine lv_aload_n hx hb dX6_best_25 rfl (lv_at hl 1 rfl) ?_
      refine lv_iconst (v := 2) hx hb dX6_best_26 (by decide) ?_
      obtain ⟨q6, hcq6, hf⟩ := bd_of hf
      refine kc_i (va_runV (As := [.int 2]) (rest := []) ⟨hx, hb, hml, hown, hts⟩ (mX6_fails l D dA ad q2.2 _ 2 q6.1 q6.2 hcq6) (cwV 1 hts gX6_117 rfl rfl rfl (by decide +kernel) ⟨Nat.le_of_ble_eq_true rfl, Nat.le_of_ble_eq_true rfl⟩) (preV_of hR hK (f := 0) (i := 0) rfl rfl rfl _) rfl rfl hl.1 rfl (lv_room (Nat.le_of_ble_eq_true rfl)) dX6_best_27 ⟨Nat.zero_le _, Nat.zero_le _⟩) hA hR hS (fun H locs hR hS => ?_)
      refine lv_goto (tgt := 34) hx hb dX6_best_30 (by decide) ?_
      cases hf
      exact ret_i hC hR hS dX6_best_34
  · have hf := if_of_neg hf (fun q => q c3)
    refine lv_iconst (v := 0) hx hb dX6_best_11 (by decide) ?_
    cases hf
    exact ret_i hC hR hS dX6_best_12
def fX6_trades (σ : St) : Option (Int32 × St) := some ((gI (pI σ 23 0 0 0) 22 0 0, pI σ 23 0 0 0))
set_option maxHeartbeats 4000000 in
set_option maxRecDepth 100000 in
theorem mX6_trades (l : Launch) (D : va_G) (dA : Nat → ClassId) (ad : Nat → Nat → Nat) (σ : St) (sz : Nat) (r : Int32) (σ' : St) (hf : fX6_trades σ = some (r, σ')) : Met l yX6_trades (WSy yX6_trades cX6_trades 1 (some .int)) ({ frames := 0, cells := 0, slots := 0, locals := 0 } : Room) (va_Pc [.ref (ad 0 0)] (fun U => U.heap.size = sz ∧ HM D dA (fun _ => True) ad σ U.heap ∧ KS D dA U)) (va_Qi (fun (x : Int32) (_ : Unit) => x = r) (fun _ t => HM D dA (WA ad (cvM σ) sz) ad σ' t.heap) (WA ad (cvM σ) sz)) 0 0 (WA ad (cvM σ) sz) := by
  refine met_of (by decide) (Nat.le_of_ble_eq_true rfl) ?_
  intro p e s m below meth c ls hC hB hl
  obtain ⟨rfl, hR, hK⟩ := hB
  have hA : ∀ q : Nat, s.heap.size ≤ q → WA ad (cvM σ) s.heap.size q := fun q h => Or.inr h
  have hR := WW_fit (B := WA ad (cvM σ) s.heap.size) hR (fun f i h => WA_in h)
  have hS : va_S (WA ad (cvM σ) s.heap.size) s.heap s.heap [] := va_S.rf
  generalize WA ad (cvM σ) s.heap.size = A0 at hA hR hS ⊢
  have hC : CTX p s m _ meth c cX6_trades 1 RX6 (some .int) := hC
  obtain ⟨hx, hb, hml, hown, hts, hr, hlk⟩ := id hC
  have hl : lv_has ls 1 [(0, .ref (ad 0 0))] := hl
  unfold fX6_trades at hf
  refine lv_aload_n hx hb dX6_trades_0 rfl (lv_at hl 0 rfl) ?_
  refine lv_iconst (v := 0) hx hb dX6_trades_1 (by decide) ?_
  refine ww_put (D := D) (ci := 7) (C := RX6) (T := TX6) (N := 22) (ty := .int) hx hb hts iuX6 tyX6 tyX6_ok nmX6 hown hK.1 hR hS (f := 0) (i := 0) rfl rfl rfl 21 (by decide) (hts _ q_829) (fun _ h9 => h9) rfl (by decide +kernel) rfl rfl (Nat.le_of_ble_eq_true rfl) dX6_trades_2 (fun H locs hR hS => ?_)
  have hR := HM_model_thrown 0 0 hR
  refine lv_aload_n hx hb dX6_trades_5 rfl (lv_at hl 0 rfl) ?_
  refine va_get (D := D) (ci := 7) (C := RX6) (T := TX6) (N := 22) hx hb hts iuX6 hown hK.1 (WW_one hR (f := 0) (i := 0) rfl) 0 rfl rfl 18 (by decide) (hts _ q_826) (fun _ h9 => h9) rfl dX6_trades_6 ?_
  cases hf
  exact ret_i hC hR hS dX6_trades_9
def fX6_closes_L27 : Nat → St → Int32 → Int32 → Int32 → Int32 → Option (St)
  | 0, _, _, _, _, _ => none
  | n + 1, σ, v4, v3, v1, v2 => gd (vin ((3 * v1) + v2) 15) (if (gI σ 4 0 ((3 * v1) + v2).toNatClampNeg) = 0 then some (σ) else if v4 = (-1) then some (σ) else if v3 = 0 then kst (-(gI σ 4 0 ((3 * v1) + v2).toNatClampNeg)) (fun x8 => gd (vin v4 100) (if x8 ≤ (gI σ 15 0 v4.toNatClampNeg) then if v3 = 0 then if v3 = 0 then bd (fX6_trade σ v1 (gI σ 11 0 v4.toNatClampNeg) v2 x8 (gI σ 14 0 v4.toNatClampNeg)) (fun q13 => bd (fX6_bestOf (pI q13 15 0 v4.toNatClampNeg ((gI q13 15 0 v4.toNatClampNeg) - x8)) v2 v3) (fun q14 => fX6_closes_L27 n (pI q13 15 0 v4.toNatClampNeg ((gI q13 15 0 v4.toNatClampNeg) - x8)) q14 v3 v1 v2)) else bd (fX6_trade σ v1 v1 v2 x8 (gI σ 14 0 v4.toNatClampNeg)) (fun q15 => bd (fX6_bestOf (pI q15 15 0 v4.toNatClampNeg ((gI q15 15 0 v4.toNatClampNeg) - x8)) v2 v3) (fun q16 => fX6_closes_L27 n (pI q15 15 0 v4.toNatClampNeg ((gI q15 15 0 v4.toNatClampNeg) - x8)) q16 v3 v1 v2)) else if v3 = 0 then bd (fX6_trade σ (gI σ 11 0 v4.toNatClampNeg) (gI σ 11 0 v4.toNatClampNeg) v2 x8 (gI σ 14 0 v4.toNatClampNeg)) (fun q18 => bd (fX6_bestOf (pI q18 15 0 v4.toNatClampNeg ((gI q18 15 0 v4.toNatClampNeg) - x8)) v2 v3) (fun q19 => fX6_closes_L27 n (pI q18 15 0 v4.toNatClampNeg ((gI q18 15 0 v4.toNatClampNeg) - x8)) q19 v3 v1 v2)) else bd (fX6_trade σ (gI σ 11 0 v4.toNatClampNeg) v1 v2 x8 (gI σ 14 0 v4.toNatClampNeg)) (fun q20 => bd (fX6_bestOf (pI q20 15 0 v4.toNatClampNeg ((gI q20 15 0 v4.toNatClampNeg) - x8)) v2 v3) (fun q21 => fX6_closes_L27 n (pI q20 15 0 v4.toNatClampNeg ((gI q20 15 0 v4.toNatClampNeg) - x8)) q21 v3 v1 v2)) else kst (gI σ 15 0 v4.toNatClampNeg) (fun x22 => if v3 = 0 then if v3 = 0 then bd (fX6_trade σ v1 (gI σ 11 0 v4.toNatClampNeg) v2 x22 (gI σ 14 0 v4.toNatClampNeg)) (fun q25 => bd (fX6_bestOf (pI q25 15 0 v4.toNatClampNeg ((gI q25 15 0 v4.toNatClampNeg) - x22)) v2 v3) (fun q26 => fX6_closes_L27 n (pI q25 15 0 v4.toNatClampNeg ((gI q25 15 0 v4.toNatClampNeg) - x22)) q26 v3 v1 v2)) else bd (fX6_trade σ v1 v1 v2 x22 (gI σ 14 0 v4.toNatClampNeg)) (fun q27 => bd (fX6_bestOf (pI q27 15 0 v4.toNatClampNeg ((gI q27 15 0 v4.toNatClampNeg) - x22)) v2 v3) (fun q28 => fX6_closes_L27 n (pI q27 15 0 v4.toNatClampNeg ((gI q27 15 0 v4.toNatClampNeg) - x22)) q28 v3 v1 v2)) else if v3 = 0 then bd (fX6_trade σ (gI σ 11 0 v4.toNatClampNeg) (gI σ 11 0 v4.toNatClampNeg) v2 x22 (gI σ 14 0 v4.toNatClampNeg)) (fun q30 => bd (fX6_bestOf (pI q30 15 0 v4.toNatClampNeg ((gI q30 15 0 v4.toNatClampNeg) - x22)) v2 v3) (fun q31 => fX6_closes_L27 n (pI q30 15 0 v4.toNatClampNeg ((gI q30 15 0 v4.toNatClampNeg) - x22)) q31 v3 v1 v2)) else bd (fX6_trade σ (gI σ 11 0 v4.toNatClampNeg) v1 v2 x22 (gI σ 14 0 v4.toNatClampNeg)) (fun q32 => bd (fX6_bestOf (pI q32 15 0 v4.toNatClampNeg ((gI q32 15 0 v4.toNatClampNeg) - x22)) v2 v3) (fun q33 => fX6_closes_L27 n (pI q32 15 0 v4.toNatClampNeg ((gI q32 15 0 v4.toNatClampNeg) - x22)) q33 v3 v1 v2))))) else kst (gI σ 4 0 ((3 * v1) + v2).toNatClampNeg) (fun x34 => gd (vin v4 100) (if x34 ≤ (gI σ 15 0 v4.toNatClampNeg) then if v3 = 0 then if v3 = 0 then bd (fX6_trade σ v1 (gI σ 11 0 v4.toNatClampNeg) v2 x34 (gI σ 14 0 v4.toNatClampNeg)) (fun q39 => bd (fX6_bestOf (pI q39 15 0 v4.toNatClampNeg ((gI q39 15 0 v4.toNatClampNeg) - x34)) v2 v3) (fun q40 => fX6_closes_L27 n (pI q39 15 0 v4.toNatClampNeg ((gI q39 15 0 v4.toNatClampNeg) - x34)) q40 v3 v1 v2)) else bd (fX6_trade σ v1 v1 v2 x34 (gI σ 14 0 v4.toNatClampNeg)) (fun q41 => bd (fX6_bestOf (pI q41 15 0 v4.toNatClampNeg ((gI q41 15 0 v4.toNatClampNeg) - x34)) v2 v3) (fun q42 => fX6_closes_L27 n (pI q41 15 0 v4.toNatClampNeg ((gI q41 15 0 v4.toNatClampNeg) - x34)) q42 v3 v1 v2)) else if v3 = 0 then bd (fX6_trade σ (gI σ 11 0 v4.toNatClampNeg) (gI σ 11 0 v4.toNatClampNeg) v2 x34 (gI σ 14 0 v4.toNatClampNeg)) (fun q44 => bd (fX6_bestOf (pI q44 15 0 v4.toNatClampNeg ((gI q44 15 0 v4.toNatClampNeg) - x34)) v2 v3) (fun q45 => fX6_closes_L27 n (pI q44 15 0 v4.toNatClampNeg ((gI q44 15 0 v4.toNatClampNeg) - x34)) q45 v3 v1 v2)) else bd (fX6_trade σ (gI σ 11 0 v4.toNatClampNeg) v1 v2 x34 (gI σ 14 0 v4.toNatClampNeg)) (fun q46 => bd (fX6_bestOf (pI q46 15 0 v4.toNatClampNeg ((gI q46 15 0 v4.toNatClampNeg) - x34)) v2 v3) (fun q47 => fX6_closes_L27 n (pI q46 15 0 v4.toNatClampNeg ((gI q46 15 0 v4.toNatClampNeg) - x34)) q47 v3 v1 v2)) else kst (gI σ 15 0 v4.toNatClampNeg) (fun x48 => if v3 = 0 then if v3 = 0 then bd (fX6_trade σ v1 (gI σ 11 0 v4.toNatClampNeg) v2 x48 (gI σ 14 0 v4.toNatClampNeg)) (fun q51 => bd (fX6_bestOf (pI q51 15 0 v4.toNatClampNeg ((gI q51 15 0 v4.toNatClampNeg) - x48)) v2 v3) (fun q52 => fX6_closes_L27 n (pI q51 15 0 v4.toNatClampNeg ((gI q51 15 0 v4.toNatClampNeg) - x48)) q52 v3 v1 v2)) else bd (fX6_trade σ v1 v1 v2 x48 (gI σ 14 0 v4.toNatClampNeg)) (fun q53 => bd (fX6_bestOf (pI q53 15 0 v4.toNatClampNeg ((gI q53 15 0 v4.toNatClampNeg) - x48)) v2 v3) (fun q54 => fX6_closes_L27 n (pI q53 15 0 v4.toNatClampNeg ((gI q53 15 0 v4.toNatClampNeg) - x48)) q54 v3 v1 v2)) else if v3 = 0 then bd (fX6_trade σ (gI σ 11 0 v4.toNatClampNeg) (gI σ 11 0 v4.toNatClampNeg) v2 x48 (gI σ 14 0 v4.toNatClampNeg)) (fun q56 => bd (fX6_bestOf (pI q56 15 0 v4.toNatClampNeg ((gI q56 15 0 v4.toNatClampNeg) - x48)) v2 v3) (fun q57 => fX6_closes_L27 n (pI q56 15 0 v4.toNatClampNeg ((gI q56 15 0 v4.toNatClampNeg) - x48)) q57 v3 v1 v2)) else bd (fX6_trade σ (gI σ 11 0 v4.toNatClampNeg) v1 v2 x48 (gI σ 14 0 v4.toNatClampNeg)) (fun q58 => bd (fX6_bestOf (pI q58 15 0 v4.toNatClampNeg ((gI q58 15 0 v4.toNatClampNeg) - x48)) v2 v3) (fun q59 => fX6_closes_L27 n (pI q58 15 0 v4.toNatClampNeg ((gI q58 15 0 v4.toNatClampNeg) - x48)) q59 v3 v1 v2))))))
set_option maxHeartbeats 4000000 in
set_option maxRecDepth 100000 in
theorem wX6_closes_L27 {p : Program} {l : Launch} {e : Env} {s : State} {m : MethodId} {args : Array Value} {below : List Frame} {meth : Method} {c : Code} {D : va_G} {dA : Nat → ClassId} {A0 : Nat → Prop} {ad : Nat → Nat → Nat} {σ' : St}  (hC : CTX p s m args meth c cX6_closes 7 RX6 none) (hK : KS D dA s) (hA : ∀ q, s.heap.size ≤ q → A0 q) : ∀ (n : Nat) (H : Heap) (locs : List Loc) (ls : Array Slot) (σ : St) (v4 : Int32) (v3 : Int32) (v1 : Int32) (v2 : Int32), HM D dA A0 ad σ H → va_S A0 s.heap H locs → lv_has ls 7 [(4, .int v4), (3, .int v3), (0, .ref (ad 0 0)), (1, .int v1), (2, .int v2)] → fX6_closes_L27 n σ v4 v3 v1 v2 = some σ' → W p l e ({ frames := 1, cells := 0, slots := 0, locals := 25 } : Room) s m args below meth c H locs 0 0 (MQ below (va_Qv (fun (_ : Unit) => True) (fun _ t => HM D dA A0 ad σ' t.heap) A0) args s 0 0 A0) (F0 m 27 ls []) := by
  obtain ⟨hx, hb, hml, hown, hts, hr, hlk⟩ := id hC
  intro n
  induction n with
  | zero =>
    intro H locs ls σ v4 v3 v1 v2 hR hS hl hf
    rw [fX6_closes_L27.eq_1] at hf
    cases hf
  | succ n ih =>
    intro H locs ls σ v4 v3 v1 v2 hR hS hl hf
    rw [fX6_closes_L27.eq_2] at hf
    refine lv_aload_n hx hb dX6_closes_27 rfl (lv_at hl 2 rfl) ?_
    refine va_get (D := D) (ci := 7) (C := RX6) (T := TX6) (N := 22) hx hb hts iuX6 hown hK.1 (WW_one hR (f := 0) (i := 0) rfl) 0 rfl rfl 3 (by decide) (hts _ q_811) (fun _ h9 => h9) rfl dX6_closes_28 ?_
    refine lv_iconst (v := 3) hx hb dX6_closes_31 (by decide) ?_
    refine lv_iload_n hx hb dX6_closes_32 rfl (lv_at hl 3 rfl) ?_
    refine lv_imul hx hb dX6_closes_33 ?_
    refine lv_iload_n hx hb dX6_closes_34 rfl (lv_at hl 4 rfl) ?_
    refine lv_iadd hx hb dX6_closes_35 ?_
    obtain ⟨g4, hf⟩ := gd_of hf
    refine va_iald hx hb hK.1 (WW_one hR (f := 4) (i := 0) rfl) 0 0 rfl rfl g4 dX6_closes_36 ?_
    refine lv_if_eq (tgt := 169) hx hb dX6_closes_37 (by decide) (fun c5 => ?_) (fun c5 => ?_)
    · have hf := if_of_pos hf c5
      cases hf
      exact ret_v hC hR hS dX6_closes_169
    · have hf := if_of_neg hf c5
      refine lv_iload hx hb dX6_closes_40 (lv_at hl 0 rfl) ?_
      refine lv_iconst (v := (-1)) hx hb dX6_closes_42 (by decide) ?_
      refine lv_icmp_eq (tgt := 169) hx hb dX6_closes_43 (by decide) (fun c6 => ?_) (fun c6 => ?_)
      · have hf := if_of_pos hf c6
        cases hf
        exact ret_v hC hR hS dX6_closes_169
      · have hf := if_of_neg hf c6
        refine lv_iload_n hx hb dX6_closes_46 rfl (lv_at hl 1 rfl) ?_
        refine lv_if_eq (tgt := 63) hx hb dX6_closes_47 (by decide) (fun c7 => ?_) (fun c7 => ?_)
        · have hf := if_of_pos hf c7
          refine lv_aload_n hx hb dX6_closes_63 rfl (lv_at hl 2 rfl) ?_
          refine va_get (D := D) (ci := 7) (C := RX6) (T := TX6) (N := 22) hx hb hts iuX6 hown hK.1 (WW_one hR (f := 0) (i := 0) rfl) 0 rfl rfl 3 (by decide) (hts _ q_811) (fun _ h9 => h9) rfl dX6_closes_64 ?_
          refine lv_iconst (v := 3) hx hb dX6_closes_67 (by decide) ?_
          refine lv_iload_n hx hb dX6_closes_68 rfl (lv_at hl 3 rfl) ?_
          refine lv_imul hx hb dX6_closes_69 ?_
          refine lv_iload_n hx hb dX6_closes_70 rfl (lv_at hl 4 rfl) ?_
          refine lv_iadd hx hb dX6_closes_71 ?_
          refine va_iald hx hb hK.1 (WW_one hR (f := 4) (i := 0) rfl) 0 0 rfl rfl g4 dX6_closes_72 ?_
          refine lv_ineg hx hb dX6_closes_73 ?_
          refine lv_topi (fun x8 hx8 => ?_)
          have hf := kst_eq hx8 hf
          refine lv_istore (lv' := [(5, .int x8), (4, .int v4), (3, .int v3), (0, .ref (ad 0 0)), (1, .int v1), (2, .int v2)]) hx hb dX6_closes_74 hl (by decide) rfl (fun ls hl => ?_)
          refine lv_aload_n hx hb dX6_closes_76 rfl (lv_at hl 3 rfl) ?_
          refine va_get (D := D) (ci := 7) (C := RX6) (T := TX6) (N := 22) hx hb hts iuX6 hown hK.1 (WW_one hR (f := 0) (i := 0) rfl) 0 rfl rfl 16 (by decide) (hts _ q_824) (fun _ h9 => h9) rfl dX6_closes_77 ?_
          refine lv_iload hx hb dX6_closes_80 (lv_at hl 1 rfl) ?_
          obtain ⟨g9, hf⟩ := gd_of hf
          refine va_iald hx hb hK.1 (WW_one hR (f := 15) (i := 0) rfl) 0 0 rfl rfl g9 dX6_closes_82 ?_
          refine lv_iload hx hb dX6_closes_83 (lv_at hl 0 rfl) ?_
          refine lv_icmp_ge (tgt := 98) hx hb dX6_closes_85 (by decide) (fun c10 => ?_) (fun c10 => ?_)
          · have hf := if_of_pos hf c10
            refine lv_iload hx hb dX6_closes_98 (lv_at hl 0 rfl) ?_
            refine lv_istore (lv' := [(6, .int x8), (5, .int x8), (4, .int v4), (3, .int v3), (0, .ref (ad 0 0)), (1, .int v1), (2, .int v2)]) hx hb dX6_closes_100 hl (by decide) rfl (fun ls hl => ?_)
            refine lv_aload_n hx hb dX6_closes_102 rfl (lv_at hl 4 rfl) ?_
            refine lv_iload_n hx hb dX6_closes_103 rfl (lv_at hl 3 rfl) ?_
            refine lv_if_eq (tgt := 117) hx hb dX6_closes_104 (by decide) (fun c11 => ?_) (fun c11 => ?_)
            · have hf := if_of_pos hf c11
              refine lv_iload_n hx hb dX6_closes_117 rfl (lv_at hl 5 rfl) ?_
              refine lv_iload_n hx hb dX6_closes_118 rfl (lv_at hl 3 rfl) ?_
              refine lv_if_eq (tgt := 126) hx hb dX6_closes_119 (by decide) (fun c12 => ?_) (fun c12 => ?_)
              · have hf := if_of_pos hf c12
                refine lv_aload_n hx hb dX6_closes_126 rfl (lv_at hl 4 rfl) ?_
                refine va_get (D := D) (ci := 7) (C := RX6) (T := TX6) (N := 22) hx hb hts iuX6 hown hK.1 (WW_one hR (f := 0) (i := 0) rfl) 0 rfl rfl 12 (by decide) (hts _ q_820) (fun _ h9 => h9) rfl dX6_closes_127 ?_
                refine lv_iload hx hb dX6_closes_130 (lv_at hl 2 rfl) ?_
                refine va_iald hx hb hK.1 (WW_one hR (f := 11) (i := 0) rfl) 0 0 rfl rfl g9 dX6_closes_132 ?_
                refine lv_iload_n hx hb dX6_closes_133 rfl (lv_at hl 6 rfl) ?_
                refine lv_iload hx hb dX6_closes_134 (lv_at hl 0 rfl) ?_
                refine lv_aload_n hx hb dX6_closes_136 rfl (lv_at hl 4 rfl) ?_
                refine va_get (D := D) (ci := 7) (C := RX6) (T := TX6) (N := 22) hx hb hts iuX6 hown hK.1 (WW_one hR (f := 0) (i := 0) rfl) 0 rfl rfl 15 (by decide) (hts _ q_823) (fun _ h9 => h9) rfl dX6_closes_137 ?_
                refine lv_iload hx hb dX6_closes_140 (lv_at hl 2 rfl) ?_
                refine va_iald hx hb hK.1 (WW_one hR (f := 14) (i := 0) rfl) 0 0 rfl rfl g9 dX6_closes_142 ?_
                obtain ⟨q13, hcq13, hf⟩ := bd_of hf
                refine kc_v (va_runV (As := [.int v1, .int (gI σ 11 0 v4.toNatClampNeg), .int v2, .int x8, .int (gI σ 14 0 v4.toNatClampNeg)]) (rest := []) ⟨hx, hb, hml, hown, hts⟩ (mX6_trade l D dA ad σ _ v1 (gI σ 11 0 v4.toNatClampNeg) v2 x8 (gI σ 14 0 v4.toNatClampNeg) q13 hcq13) (cwV 5 hts gX6_127 rfl rfl rfl (by decide +kernel) ⟨Nat.le_of_ble_eq_true rfl, Nat.le_of_ble_eq_true rfl⟩) (preV_of hR hK (f := 0) (i := 0) rfl rfl rfl _) rfl rfl hl.1 rfl (lv_room (Nat.le_of_ble_eq_true rfl)) dX6_closes_143 ⟨Nat.zero_le _, Nat.zero_le _⟩) hA hR hS (fun H locs hR hS => ?_)
                refine lv_aload_n hx hb dX6_closes_146 rfl (lv_at hl 4 rfl) ?_
                refine va_get (D := D) (ci := 7) (C := RX6) (T := TX6) (N := 22) hx hb hts iuX6 hown hK.1 (WW_one hR (f := 0) (i := 0) rfl) 0 rfl rfl 16 (by decide) (hts _ q_824) (fun _ h9 => h9) rfl dX6_closes_147 ?_
                refine lv_iload hx hb dX6_closes_150 (lv_at hl 2 rfl) ?_
                refine lv_dup2_11 hx hb dX6_closes_152 rfl rfl ?_
                refine va_iald hx hb hK.1 (WW_one hR (f := 15) (i := 0) rfl) 0 0 rfl rfl g9 dX6_closes_153 ?_
                refine lv_iload hx hb dX6_closes_154 (lv_at hl 0 rfl) ?_
                refine lv_isub hx hb dX6_closes_156 ?_
                refine ww_iast hx hb hK.1 hR hS 0 (f := 15) (j := 0) rfl rfl rfl g9 dX6_closes_157 (fun H locs hR hS => ?_)
                have hR := HM_row15 0 (v4.toNatClampNeg) ((gI q13 15 0 v4.toNatClampNeg) - x8) hR
                refine lv_aload_n hx hb dX6_closes_158 rfl (lv_at hl 4 rfl) ?_
                refine lv_iload_n hx hb dX6_closes_159 rfl (lv_at hl 6 rfl) ?_
                refine lv_iload_n hx hb dX6_closes_160 rfl (lv_at hl 3 rfl) ?_
                obtain ⟨q14, hcq14, hf⟩ := bd_of hf
                refine kc_i (va_runV (As := [.int v2, .int v3]) (rest := []) ⟨hx, hb, hml, hown, hts⟩ (mX6_bestOf l D dA ad (pI q13 15 0 v4.toNatClampNeg ((gI q13 15 0 v4.toNatClampNeg) - x8)) _ v2 v3 q14 hcq14) (cwV 2 hts gX6_123 rfl rfl rfl (by decide +kernel) ⟨Nat.le_of_ble_eq_true rfl, Nat.le_of_ble_eq_true rfl⟩) (preV_of hR hK (f := 0) (i := 0) rfl rfl rfl _) rfl rfl hl.1 rfl (lv_room (Nat.le_of_ble_eq_true rfl)) dX6_closes_161 ⟨Nat.zero_le _, Nat.zero_le _⟩) hA hR hS (fun H locs hR hS => ?_)
                refine lv_istore (lv' := [(4, .int q14), (6, .int x8), (5, .int x8), (3, .int v3), (0, .ref (ad 0 0)), (1, .int v1), (2, .int v2)]) hx hb dX6_closes_164 hl (by decide) rfl (fun ls hl => ?_)
                refine lv_goto (tgt := 27) hx hb dX6_closes_166 (by decide) ?_
                exact ih _ _ _ (pI q13 15 0 v4.toNatClampNeg ((gI q13 15 0 v4.toNatClampNeg) - x8)) q14 v3 v1 v2 hR hS (lv_sub hl [0, 3, 4, 5, 6] rfl) hf
              · have hf := if_of_neg hf c12
                refine lv_iload_n hx hb dX6_closes_122 rfl (lv_at hl 5 rfl) ?_
                refine lv_goto (tgt := 133) hx hb dX6_closes_123 (by decide) ?_
                refine lv_iload_n hx hb dX6_closes_133 rfl (lv_at hl 6 rfl) ?_
                refine lv_iload hx hb dX6_closes_134 (lv_at hl 0 rfl) ?_
                refine lv_aload_n hx hb dX6_closes_136 rfl (lv_at hl 4 rfl) ?_
                refine va_get (D := D) (ci := 7) (C := RX6) (T := TX6) (N := 22) hx hb hts iuX6 hown hK.1 (WW_one hR (f := 0) (i := 0) rfl) 0 rfl rfl 15 (by decide) (hts _ q_823) (fun _ h9 => h9) rfl dX6_closes_137 ?_
                refine lv_iload hx hb dX6_closes_140 (lv_at hl 2 rfl) ?_
                refine va_iald hx hb hK.1 (WW_one hR (f := 14) (i := 0) rfl) 0 0 rfl rfl g9 dX6_closes_142 ?_
                obtain ⟨q15, hcq15, hf⟩ := bd_of hf
                refine kc_v (va_runV (As := [.int v1, .int v1, .int v2, .int x8, .int (gI σ 14 0 v4.toNatClampNeg)]) (rest := []) ⟨hx, hb, hml, hown, hts⟩ (mX6_trade l D dA ad σ _ v1 v1 v2 x8 (gI σ 14 0 v4.toNatClampNeg) q15 hcq15) (cwV 5 hts gX6_127 rfl rfl rfl (by decide +kernel) ⟨Nat.le_of_ble_eq_true rfl, Nat.le_of_ble_eq_true rfl⟩) (preV_of hR hK (f := 0) (i := 0) rfl rfl rfl _) rfl rfl hl.1 rfl (lv_room (Nat.le_of_ble_eq_true rfl)) dX6_closes_143 ⟨Nat.zero_le _, Nat.zero_le _⟩) hA hR hS (fun H locs hR hS => ?_)
                refine lv_aload_n hx hb dX6_closes_146 rfl (lv_at hl 4 rfl) ?_
                refine va_get (D := D) (ci := 7) (C := RX6) (T := TX6) (N := 22) hx hb hts iuX6 hown hK.1 (WW_one hR (f := 0) (i := 0) rfl) 0 rfl rfl 16 (by decide) (hts _ q_824) (fun _ h9 => h9) rfl dX6_closes_147 ?_
                refine lv_iload hx hb dX6_closes_150 (lv_at hl 2 rfl) ?_
                refine lv_dup2_11 hx hb dX6_closes_152 rfl rfl ?_
                refine va_iald hx hb hK.1 (WW_one hR (f := 15) (i := 0) rfl) 0 0 rfl rfl g9 dX6_closes_153 ?_
                refine lv_iload hx hb dX6_closes_154 (lv_at hl 0 rfl) ?_
                refine lv_isub hx hb dX6_closes_156 ?_
                refine ww_iast hx hb hK.1 hR hS 0 (f := 15) (j := 0) rfl rfl rfl g9 dX6_closes_157 (fun H locs hR hS => ?_)
                have hR := HM_row15 0 (v4.toNatClampNeg) ((gI q15 15 0 v4.toNatClampNeg) - x8) hR
                refine lv_aload_n hx hb dX6_closes_158 rfl (lv_at hl 4 rfl) ?_
                refine lv_iload_n hx hb dX6_closes_159 rfl (lv_at hl 6 rfl) ?_
                refine lv_iload_n hx hb dX6_closes_160 rfl (lv_at hl 3 rfl) ?_
                obtain ⟨q16, hcq16, hf⟩ := bd_of hf
                refine kc_i (va_runV (As := [.int v2, .int v3]) (rest := []) ⟨hx, hb, hml, hown, hts⟩ (mX6_bestOf l D dA ad (pI q15 15 0 v4.toNatClampNeg ((gI q15 15 0 v4.toNatClampNeg) - x8)) _ v2 v3 q16 hcq16) (cwV 2 hts gX6_123 rfl rfl rfl (by decide +kernel) ⟨Nat.le_of_ble_eq_true rfl, Nat.le_of_ble_eq_true rfl⟩) (preV_of hR hK (f := 0) (i := 0) rfl rfl rfl _) rfl rfl hl.1 rfl (lv_room (Nat.le_of_ble_eq_true rfl)) dX6_closes_161 ⟨Nat.zero_le _, Nat.zero_le _⟩) hA hR hS (fun H locs hR hS => ?_)
                refine lv_istore (lv' := [(4, .int q16), (6, .int x8), (5, .int x8), (3, .int v3), (0, .ref (ad 0 0)), (1, .int v1), (2, .int v2)]) hx hb dX6_closes_164 hl (by decide) rfl (fun ls hl => ?_)
                refine lv_goto (tgt := 27) hx hb dX6_closes_166 (by decide) ?_
                exact ih _ _ _ (pI q15 15 0 v4.toNatClampNeg ((gI q15 15 0 v4.toNatClampNeg) - x8)) q16 v3 v1 v2 hR hS (lv_sub hl [0, 3, 4, 5, 6] rfl) hf
            · have hf := if_of_neg hf c11
              refine lv_aload_n hx hb dX6_closes_107 rfl (lv_at hl 4 rfl) ?_
              refine va_get (D := D) (ci := 7) (C := RX6) (T := TX6) (N := 22) hx hb hts iuX6 hown hK.1 (WW_one hR (f := 0) (i := 0) rfl) 0 rfl rfl 12 (by decide) (hts _ q_820) (fun _ h9 => h9) rfl dX6_closes_108 ?_
              refine lv_iload hx hb dX6_closes_111 (lv_at hl 2 rfl) ?_
              refine va_iald hx hb hK.1 (WW_one hR (f := 11) (i := 0) rfl) 0 0 rfl rfl g9 dX6_closes_113 ?_
              refine lv_goto (tgt := 118) hx hb dX6_closes_114 (by decide) ?_
              refine lv_iload_n hx hb dX6_closes_118 rfl (lv_at hl 3 rfl) ?_
              refine lv_if_eq (tgt := 126) hx hb dX6_closes_119 (by decide) (fun c17 => ?_) (fun c17 => ?_)
              · have hf := if_of_pos hf c17
                refine lv_aload_n hx hb dX6_closes_126 rfl (lv_at hl 4 rfl) ?_
                refine va_get (D := D) (ci := 7) (C := RX6) (T := TX6) (N := 22) hx hb hts iuX6 hown hK.1 (WW_one hR (f := 0) (i := 0) rfl) 0 rfl rfl 12 (by decide) (hts _ q_820) (fun _ h9 => h9) rfl dX6_closes_127 ?_
                refine lv_iload hx hb dX6_closes_130 (lv_at hl 2 rfl) ?_
                refine va_iald hx hb hK.1 (WW_one hR (f := 11) (i := 0) rfl) 0 0 rfl rfl g9 dX6_closes_132 ?_
                refine lv_iload_n hx hb dX6_closes_133 rfl (lv_at hl 6 rfl) ?_
                refine lv_iload hx hb dX6_closes_134 (lv_at hl 0 rfl) ?_
                refine lv_aload_n hx hb dX6_closes_136 rfl (lv_at hl 4 rfl) ?_
                refine va_get (D := D) (ci := 7) (C := RX6) (T := TX6) (N := 22) hx hb hts iuX6 hown hK.1 (WW_one hR (f := 0) (i := 0) rfl) 0 rfl rfl 15 (by decide) (hts _ q_823) (fun _ h9 => h9) rfl dX6_closes_137 ?_
                refine lv_iload hx hb dX6_closes_140 (lv_at hl 2 rfl) ?_
                refine va_iald hx hb hK.1 (WW_one hR (f := 14) (i := 0) rfl) 0 0 rfl rfl g9 dX6_closes_142 ?_
                obtain ⟨q18, hcq18, hf⟩ := bd_of hf
                refine kc_v (va_runV (As := [.int (gI σ 11 0 v4.toNatClampNeg), .int (gI σ 11 0 v4.toNatClampNeg), .int v2, .int x8, .int (gI σ 14 0 v4.toNatClampNeg)]) (rest := []) ⟨hx, hb, hml, hown, hts⟩ (mX6_trade l D dA ad σ _ (gI σ 11 0 v4.toNatClampNeg) (gI σ 11 0 v4.toNatClampNeg) v2 x8 (gI σ 14 0 v4.toNatClampNeg) q18 hcq18) (cwV 5 hts gX6_127 rfl rfl rfl (by decide +kernel) ⟨Nat.le_of_ble_eq_true rfl, Nat.le_of_ble_eq_true rfl⟩) (preV_of hR hK (f := 0) (i := 0) rfl rfl rfl _) rfl rfl hl.1 rfl (lv_room (Nat.le_of_ble_eq_true rfl)) dX6_closes_143 ⟨Nat.zero_le _, Nat.zero_le _⟩) hA hR hS (fun H locs hR hS => ?_)
                refine lv_aload_n hx hb dX6_closes_146 rfl (lv_at hl 4 rfl) ?_
                refine va_get (D := D) (ci := 7) (C := RX6) (T := TX6) (N := 22) hx hb hts iuX6 hown hK.1 (WW_one hR (f := 0) (i := 0) rfl) 0 rfl rfl 16 (by decide) (hts _ q_824) (fun _ h9 => h9) rfl dX6_closes_147 ?_
                refine lv_iload hx hb dX6_closes_150 (lv_at hl 2 rfl) ?_
                refine lv_dup2_11 hx hb dX6_closes_152 rfl rfl ?_
                refine va_iald hx hb hK.1 (WW_one hR (f := 15) (i := 0) rfl) 0 0 rfl rfl g9 dX6_closes_153 ?_
                refine lv_iload hx hb dX6_closes_154 (lv_at hl 0 rfl) ?_
                refine lv_isub hx hb dX6_closes_156 ?_
                refine ww_iast hx hb hK.1 hR hS 0 (f := 15) (j := 0) rfl rfl rfl g9 dX6_closes_157 (fun H locs hR hS => ?_)
                have hR := HM_row15 0 (v4.toNatClampNeg) ((gI q18 15 0 v4.toNatClampNeg) - x8) hR
                refine lv_aload_n hx hb dX6_closes_158 rfl (lv_at hl 4 rfl) ?_
                refine lv_iload_n hx hb dX6_closes_159 rfl (lv_at hl 6 rfl) ?_
                refine lv_iload_n hx hb dX6_closes_160 rfl (lv_at hl 3 rfl) ?_
                obtain ⟨q19, hcq19, hf⟩ := bd_of hf
                refine kc_i (va_runV (As := [.int v2, .int v3]) (rest := []) ⟨hx, hb, hml, hown, hts⟩ (mX6_bestOf l D dA ad (pI q18 15 0 v4.toNatClampNeg ((gI q18 15 0 v4.toNatClampNeg) - x8)) _ v2 v3 q19 hcq19) (cwV 2 hts gX6_123 rfl rfl rfl (by decide +kernel) ⟨Nat.le_of_ble_eq_true rfl, Nat.le_of_ble_eq_true rfl⟩) (preV_of hR hK (f := 0) (i := 0) rfl rfl rfl _) rfl rfl hl.1 rfl (lv_room (Nat.le_of_ble_eq_true rfl)) dX6_closes_161 ⟨Nat.zero_le _, Nat.zero_le _⟩) hA hR hS (fun H locs hR hS => ?_)
                refine lv_istore (lv' := [(4, .int q19), (6, .int x8), (5, .int x8), (3, .int v3), (0, .ref (ad 0 0)), (1, .int v1), (2, .int v2)]) hx hb dX6_closes_164 hl (by decide) rfl (fun ls hl => ?_)
                refine lv_goto (tgt := 27) hx hb dX6_closes_166 (by decide) ?_
                exact ih _ _ _ (pI q18 15 0 v4.toNatClampNeg ((gI q18 15 0 v4.toNatClampNeg) - x8)) q19 v3 v1 v2 hR hS (lv_sub hl [0, 3, 4, 5, 6] rfl) hf
              · have hf := if_of_neg hf c17
                refine lv_iload_n hx hb dX6_closes_122 rfl (lv_at hl 5 rfl) ?_
                refine lv_goto (tgt := 133) hx hb dX6_closes_123 (by decide) ?_
                refine lv_iload_n hx hb dX6_closes_133 rfl (lv_at hl 6 rfl) ?_
                refine lv_iload hx hb dX6_closes_134 (lv_at hl 0 rfl) ?_
                refine lv_aload_n hx hb dX6_closes_136 rfl (lv_at hl 4 rfl) ?_
                refine va_get (D := D) (ci := 7) (C := RX6) (T := TX6) (N := 22) hx hb hts iuX6 hown hK.1 (WW_one hR (f := 0) (i := 0) rfl) 0 rfl rfl 15 (by decide) (hts _ q_823) (fun _ h9 => h9) rfl dX6_closes_137 ?_
                refine lv_iload hx hb dX6_closes_140 (lv_at hl 2 rfl) ?_
                refine va_iald hx hb hK.1 (WW_one hR (f := 14) (i := 0) rfl) 0 0 rfl rfl g9 dX6_closes_142 ?_
                obtain ⟨q20, hcq20, hf⟩ := bd_of hf
                refine kc_v (va_runV (As := [.int (gI σ 11 0 v4.toNatClampNeg), .int v1, .int v2, .int x8, .int (gI σ 14 0 v4.toNatClampNeg)]) (rest := []) ⟨hx, hb, hml, hown, hts⟩ (mX6_trade l D dA ad σ _ (gI σ 11 0 v4.toNatClampNeg) v1 v2 x8 (gI σ 14 0 v4.toNatClampNeg) q20 hcq20) (cwV 5 hts gX6_127 rfl rfl rfl (by decide +kernel) ⟨Nat.le_of_ble_eq_true rfl, Nat.le_of_ble_eq_true rfl⟩) (preV_of hR hK (f := 0) (i := 0) rfl rfl rfl _) rfl rfl hl.1 rfl (lv_room (Nat.le_of_ble_eq_true rfl)) dX6_closes_143 ⟨Nat.zero_le _, Nat.zero_le _⟩) hA hR hS (fun H locs hR hS => ?_)
                refine lv_aload_n hx hb dX6_closes_146 rfl (lv_at hl 4 rfl) ?_
                refine va_get (D := D) (ci := 7) (C := RX6) (T := TX6) (N := 22) hx hb hts iuX6 hown hK.1 (WW_one hR (f := 0) (i := 0) rfl) 0 rfl rfl 16 (by decide) (hts _ q_824) (fun _ h9 => h9) rfl dX6_closes_147 ?_
                refine lv_iload hx hb dX6_closes_150 (lv_at hl 2 rfl) ?_
                refine lv_dup2_11 hx hb dX6_closes_152 rfl rfl ?_
                refine va_iald hx hb hK.1 (WW_one hR (f := 15) (i := 0) rfl) 0 0 rfl rfl g9 dX6_closes_153 ?_
                refine lv_iload hx hb dX6_closes_154 (lv_at hl 0 rfl) ?_
                refine lv_isub hx hb dX6_closes_156 ?_
                refine ww_iast hx hb hK.1 hR hS 0 (f := 15) (j := 0) rfl rfl rfl g9 dX6_closes_157 (fun H locs hR hS => ?_)
                have hR := HM_row15 0 (v4.toNatClampNeg) ((gI q20 15 0 v4.toNatClampNeg) - x8) hR
                refine lv_aload_n hx hb dX6_closes_158 rfl (lv_at hl 4 rfl) ?_
                refine lv_iload_n hx hb dX6_closes_159 rfl (lv_at hl 6 rfl) ?_
                refine lv_iload_n hx hb dX6_closes_160 rfl (lv_at hl 3 rfl) ?_
                obtain ⟨q21, hcq21, hf⟩ := bd_of hf
                refine kc_i (va_runV (As := [.int v2, .int v3]) (rest := []) ⟨hx, hb, hml, hown, hts⟩ (mX6_bestOf l D dA ad (pI q20 15 0 v4.toNatClampNeg ((gI q20 15 0 v4.toNatClampNeg) - x8)) _ v2 v3 q21 hcq21) (cwV 2 hts gX6_123 rfl rfl rfl (by decide +kernel) ⟨Nat.le_of_ble_eq_true rfl, Nat.le_of_ble_eq_true rfl⟩) (preV_of hR hK (f := 0) (i := 0) rfl rfl rfl _) rfl rfl hl.1 rfl (lv_room (Nat.le_of_ble_eq_true rfl)) dX6_closes_161 ⟨Nat.zero_le _, Nat.zero_le _⟩) hA hR hS (fun H locs hR hS => ?_)
                refine lv_istore (lv' := [(4, .int q21), (6, .int x8), (5, .int x8), (3, .int v3), (0, .ref (ad 0 0)), (1, .int v1), (2, .int v2)]) hx hb dX6_closes_164 hl (by decide) rfl (fun ls hl => ?_)
                refine lv_goto (tgt := 27) hx hb dX6_closes_166 (by decide) ?_
                exact ih _ _ _ (pI q20 15 0 v4.toNatClampNeg ((gI q20 15 0 v4.toNatClampNeg) - x8)) q21 v3 v1 v2 hR hS (lv_sub hl [0, 3, 4, 5, 6] rfl) hf
          · have hf := if_of_neg hf c10
            refine lv_aload_n hx hb dX6_closes_88 rfl (lv_at hl 3 rfl) ?_
            refine va_get (D := D) (ci := 7) (C := RX6) (T := TX6) (N := 22) hx hb hts iuX6 hown hK.1 (WW_one hR (f := 0) (i := 0) rfl) 0 rfl rfl 16 (by decide) (hts _ q_824) (fun _ h9 => h9) rfl dX6_closes_89 ?_
            refine lv_iload hx hb dX6_closes_92 (lv_at hl 1 rfl) ?_
            refine va_iald hx hb hK.1 (WW_one hR (f := 15) (i := 0) rfl) 0 0 rfl rfl g9 dX6_closes_94 ?_
            refine lv_goto (tgt := 100) hx hb dX6_closes_95 (by decide) ?_
            refine lv_topi (fun x22 hx22 => ?_)
            have hf := kst_eq hx22 hf
            refine lv_istore (lv' := [(6, .int x22), (5, .int x8), (4, .int v4), (3, .int v3), (0, .ref (ad 0 0)), (1, .int v1), (2, .int v2)]) hx hb dX6_closes_100 hl (by decide) rfl (fun ls hl => ?_)
            refine lv_aload_n hx hb dX6_closes_102 rfl (lv_at hl 4 rfl) ?_
            refine lv_iload_n hx hb dX6_closes_103 rfl (lv_at hl 3 rfl) ?_
            refine lv_if_eq (tgt := 117) hx hb dX6_closes_104 (by decide) (fun c23 => ?_) (fun c23 => ?_)
            · have hf := if_of_pos hf c23
              refine lv_iload_n hx hb dX6_closes_117 rfl (lv_at hl 5 rfl) ?_
              refine lv_iload_n hx hb dX6_closes_118 rfl (lv_at hl 3 rfl) ?_
              refine lv_if_eq (tgt := 126) hx hb dX6_closes_119 (by decide) (fun c24 => ?_) (fun c24 => ?_)
              · have hf := if_of_pos hf c24
                refine lv_aload_n hx hb dX6_closes_126 rfl (lv_at hl 4 rfl) ?_
                refine va_get (D := D) (ci := 7) (C := RX6) (T := TX6) (N := 22) hx hb hts iuX6 hown hK.1 (WW_one hR (f := 0) (i := 0) rfl) 0 rfl rfl 12 (by decide) (hts _ q_820) (fun _ h9 => h9) rfl dX6_closes_127 ?_
                refine lv_iload hx hb dX6_closes_130 (lv_at hl 2 rfl) ?_
                refine va_iald hx hb hK.1 (WW_one hR (f := 11) (i := 0) rfl) 0 0 rfl rfl g9 dX6_closes_132 ?_
                refine lv_iload_n hx hb dX6_closes_133 rfl (lv_at hl 6 rfl) ?_
                refine lv_iload hx hb dX6_closes_134 (lv_at hl 0 rfl) ?_
                refine lv_aload_n hx hb dX6_closes_136 rfl (lv_at hl 4 rfl) ?_
                refine va_get (D := D) (ci := 7) (C := RX6) (T := TX6) (N := 22) hx hb hts iuX6 hown hK.1 (WW_one hR (f := 0) (i := 0) rfl) 0 rfl rfl 15 (by decide) (hts _ q_823) (fun _ h9 => h9) rfl dX6_closes_137 ?_
                refine lv_iload hx hb dX6_closes_140 (lv_at hl 2 rfl) ?_
                refine va_iald hx hb hK.1 (WW_one hR (f := 14) (i := 0) rfl) 0 0 rfl rfl g9 dX6_closes_142 ?_
                obtain ⟨q25, hcq25, hf⟩ := bd_of hf
                refine kc_v (va_runV (As := [.int v1, .int (gI σ 11 0 v4.toNatClampNeg), .int v2, .int x22, .int (gI σ 14 0 v4.toNatClampNeg)]) (rest := []) ⟨hx, hb, hml, hown, hts⟩ (mX6_trade l D dA ad σ _ v1 (gI σ 11 0 v4.toNatClampNeg) v2 x22 (gI σ 14 0 v4.toNatClampNeg) q25 hcq25) (cwV 5 hts gX6_127 rfl rfl rfl (by decide +kernel) ⟨Nat.le_of_ble_eq_true rfl, Nat.le_of_ble_eq_true rfl⟩) (preV_of hR hK (f := 0) (i := 0) rfl rfl rfl _) rfl rfl hl.1 rfl (lv_room (Nat.le_of_ble_eq_true rfl)) dX6_closes_143 ⟨Nat.zero_le _, Nat.zero_le _⟩) hA hR hS (fun H locs hR hS => ?_)
                refine lv_aload_n hx hb dX6_closes_146 rfl (lv_at hl 4 rfl) ?_
                refine va_get (D := D) (ci := 7) (C := RX6) (T := TX6) (N := 22) hx hb hts iuX6 hown hK.1 (WW_one hR (f := 0) (i := 0) rfl) 0 rfl rfl 16 (by decide) (hts _ q_824) (fun _ h9 => h9) rfl dX6_closes_147 ?_
                refine lv_iload hx hb dX6_closes_150 (lv_at hl 2 rfl) ?_
                refine lv_dup2_11 hx hb dX6_closes_152 rfl rfl ?_
                refine va_iald hx hb hK.1 (WW_one hR (f := 15) (i := 0) rfl) 0 0 rfl rfl g9 dX6_closes_153 ?_
                refine lv_iload hx hb dX6_closes_154 (lv_at hl 0 rfl) ?_
                refine lv_isub hx hb dX6_closes_156 ?_
                refine ww_iast hx hb hK.1 hR hS 0 (f := 15) (j := 0) rfl rfl rfl g9 dX6_closes_157 (fun H locs hR hS => ?_)
                have hR := HM_row15 0 (v4.toNatClampNeg) ((gI q25 15 0 v4.toNatClampNeg) - x22) hR
                refine lv_aload_n hx hb dX6_closes_158 rfl (lv_at hl 4 rfl) ?_
                refine lv_iload_n hx hb dX6_closes_159 rfl (lv_at hl 6 rfl) ?_
                refine lv_iload_n hx hb dX6_closes_160 rfl (lv_at hl 3 rfl) ?_
                obtain ⟨q26, hcq26, hf⟩ := bd_of hf
                refine kc_i (va_runV (As := [.int v2, .int v3]) (rest := []) ⟨hx, hb, hml, hown, hts⟩ (mX6_bestOf l D dA ad (pI q25 15 0 v4.toNatClampNeg ((gI q25 15 0 v4.toNatClampNeg) - x22)) _ v2 v3 q26 hcq26) (cwV 2 hts gX6_123 rfl rfl rfl (by decide +kernel) ⟨Nat.le_of_ble_eq_true rfl, Nat.le_of_ble_eq_true rfl⟩) (preV_of hR hK (f := 0) (i := 0) rfl rfl rfl _) rfl rfl hl.1 rfl (lv_room (Nat.le_of_ble_eq_true rfl)) dX6_closes_161 ⟨Nat.zero_le _, Nat.zero_le _⟩) hA hR hS (fun H locs hR hS => ?_)
                refine lv_istore (lv' := [(4, .int q26), (6, .int x22), (5, .int x8), (3, .int v3), (0, .ref (ad 0 0)), (1, .int v1), (2, .int v2)]) hx hb dX6_closes_164 hl (by decide) rfl (fun ls hl => ?_)
                refine lv_goto (tgt := 27) hx hb dX6_closes_166 (by decide) ?_
                exact ih _ _ _ (pI q25 15 0 v4.toNatClampNeg ((gI q25 15 0 v4.toNatClampNeg) - x22)) q26 v3 v1 v2 hR hS (lv_sub hl [0, 3, 4, 5, 6] rfl) hf
              · have hf := if_of_neg hf c24
                refine lv_iload_n hx hb dX6_closes_122 rfl (lv_at hl 5 rfl) ?_
                refine lv_goto (tgt := 133) hx hb dX6_closes_123 (by decide) ?_
                refine lv_iload_n hx hb dX6_closes_133 rfl (lv_at hl 6 rfl) ?_
                refine lv_iload hx hb dX6_closes_134 (lv_at hl 0 rfl) ?_
                refine lv_aload_n hx hb dX6_closes_136 rfl (lv_at hl 4 rfl) ?_
                refine va_get (D := D) (ci := 7) (C := RX6) (T := TX6) (N := 22) hx hb hts iuX6 hown hK.1 (WW_one hR (f := 0) (i := 0) rfl) 0 rfl rfl 15 (by decide) (hts _ q_823) (fun _ h9 => h9) rfl dX6_closes_137 ?_
                refine lv_iload hx hb dX6_closes_140 (lv_at hl 2 rfl) ?_
                refine va_iald hx hb hK.1 (WW_one hR (f := 14) (i := 0) rfl) 0 0 rfl rfl g9 dX6_closes_142 ?_
                obtain ⟨q27, hcq27, hf⟩ := bd_of hf
                refine kc_v (va_runV (As := [.int v1, .int v1, .int v2, .int x22, .int (gI σ 14 0 v4.toNatClampNeg)]) (rest := []) ⟨hx, hb, hml, hown, hts⟩ (mX6_trade l D dA ad σ _ v1 v1 v2 x22 (gI σ 14 0 v4.toNatClampNeg) q27 hcq27) (cwV 5 hts gX6_127 rfl rfl rfl (by decide +kernel) ⟨Nat.le_of_ble_eq_true rfl, Nat.le_of_ble_eq_true rfl⟩) (preV_of hR hK (f := 0) (i := 0) rfl rfl rfl _) rfl rfl hl.1 rfl (lv_room (Nat.le_of_ble_eq_true rfl)) dX6_closes_143 ⟨Nat.zero_le _, Nat.zero_le _⟩) hA hR hS (fun H locs hR hS => ?_)
                refine lv_aload_n hx hb dX6_closes_146 rfl (lv_at hl 4 rfl) ?_
                refine va_get (D := D) (ci := 7) (C := RX6) (T := TX6) (N := 22) hx hb hts iuX6 hown hK.1 (WW_one hR (f := 0) (i := 0) rfl) 0 rfl rfl 16 (by decide) (hts _ q_824) (fun _ h9 => h9) rfl dX6_closes_147 ?_
                refine lv_iload hx hb dX6_closes_150 (lv_at hl 2 rfl) ?_
                refine lv_dup2_11 hx hb dX6_closes_152 rfl rfl ?_
                refine va_iald hx hb hK.1 (WW_one hR (f := 15) (i := 0) rfl) 0 0 rfl rfl g9 dX6_closes_153 ?_
                refine lv_iload hx hb dX6_closes_154 (lv_at hl 0 rfl) ?_
                refine lv_isub hx hb dX6_closes_156 ?_
                refine ww_iast hx hb hK.1 hR hS 0 (f := 15) (j := 0) rfl rfl rfl g9 dX6_closes_157 (fun H locs hR hS => ?_)
                have hR := HM_row15 0 (v4.toNatClampNeg) ((gI q27 15 0 v4.toNatClampNeg) - x22) hR
                refine lv_aload_n hx hb dX6_closes_158 rfl (lv_at hl 4 rfl) ?_
                refine lv_iload_n hx hb dX6_closes_159 rfl (lv_at hl 6 rfl) ?_
                refine lv_iload_n hx hb dX6_closes_160 rfl (lv_at hl 3 rfl) ?_
                obtain ⟨q28, hcq28, hf⟩ := bd_of hf
                refine kc_i (va_runV (As := [.int v2, .int v3]) (rest := []) ⟨hx, hb, hml, hown, hts⟩ (mX6_bestOf l D dA ad (pI q27 15 0 v4.toNatClampNeg ((gI q27 15 0 v4.toNatClampNeg) - x22)) _ v2 v3 q28 hcq28) (cwV 2 hts gX6_123 rfl rfl rfl (by decide +kernel) ⟨Nat.le_of_ble_eq_true rfl, Nat.le_of_ble_eq_true rfl⟩) (preV_of hR hK (f := 0) (i := 0) rfl rfl rfl _) rfl rfl hl.1 rfl (lv_room (Nat.le_of_ble_eq_true rfl)) dX6_closes_161 ⟨Nat.zero_le _, Nat.zero_le _⟩) hA hR hS (fun H locs hR hS => ?_)
                refine lv_istore (lv' := [(4, .int q28), (6, .int x22), (5, .int x8), (3, .int v3), (0, .ref (ad 0 0)), (1, .int v1), (2, .int v2)]) hx hb dX6_closes_164 hl (by decide) rfl (fun ls hl => ?_)
                refine lv_goto (tgt := 27) hx hb dX6_closes_166 (by decide) ?_
                exact ih _ _ _ (pI q27 15 0 v4.toNatClampNeg ((gI q27 15 0 v4.toNatClampNeg) - x22)) q28 v3 v1 v2 hR hS (lv_sub hl [0, 3, 4, 5, 6] rfl) hf
            · have hf := if_of_neg hf c23
              refine lv_aload_n hx hb dX6_closes_107 rfl (lv_at hl 4 rfl) ?_
              refine va_get (D := D) (ci := 7) (C := RX6) (T := TX6) (N := 22) hx hb hts iuX6 hown hK.1 (WW_one hR (f := 0) (i := 0) rfl) 0 rfl rfl 12 (by decide) (hts _ q_820) (fun _ h9 => h9) rfl dX6_closes_108 ?_
              refine lv_iload hx hb dX6_closes_111 (lv_at hl 2 rfl) ?_
              refine va_iald hx hb hK.1 (WW_one hR (f := 11) (i := 0) rfl) 0 0 rfl rfl g9 dX6_closes_113 ?_
              refine lv_goto (tgt := 118) hx hb dX6_closes_114 (by decide) ?_
              refine lv_iload_n hx hb dX6_closes_118 rfl (lv_at hl 3 rfl) ?_
              refine lv_if_eq (tgt := 126) hx hb dX6_closes_119 (by decide) (fun c29 => ?_) (fun c29 => ?_)
              · have hf := if_of_pos hf c29
                refine lv_aload_n hx hb dX6_closes_126 rfl (lv_at hl 4 rfl) ?_
                refine va_get (D := D) (ci := 7) (C := RX6) (T := TX6) (N := 22) hx hb hts iuX6 hown hK.1 (WW_one hR (f := 0) (i := 0) rfl) 0 rfl rfl 12 (by decide) (hts _ q_820) (fun _ h9 => h9) rfl dX6_closes_127 ?_
                refine lv_iload hx hb dX6_closes_130 (lv_at hl 2 rfl) ?_
                refine va_iald hx hb hK.1 (WW_one hR (f := 11) (i := 0) rfl) 0 0 rfl rfl g9 dX6_closes_132 ?_
                refine lv_iload_n hx hb dX6_closes_133 rfl (lv_at hl 6 rfl) ?_
                refine lv_iload hx hb dX6_closes_134 (lv_at hl 0 rfl) ?_
                refine lv_aload_n hx hb dX6_closes_136 rfl (lv_at hl 4 rfl) ?_
                refine va_get (D := D) (ci := 7) (C := RX6) (T := TX6) (N := 22) hx hb hts iuX6 hown hK.1 (WW_one hR (f := 0) (i := 0) rfl) 0 rfl rfl 15 (by decide) (hts _ q_823) (fun _ h9 => h9) rfl dX6_closes_137 ?_
                refine lv_iload hx hb dX6_closes_140 (lv_at hl 2 rfl) ?_
                refine va_iald hx hb hK.1 (WW_one hR (f := 14) (i := 0) rfl) 0 0 rfl rfl g9 dX6_closes_142 ?_
                obtain ⟨q30, hcq30, hf⟩ := bd_of hf
                refine kc_v (va_runV (As := [.int (gI σ 11 0 v4.toNatClampNeg), .int (gI σ 11 0 v4.toNatClampNeg), .int v2, .int x22, .int (gI σ 14 0 v4.toNatClampNeg)]) (rest := []) ⟨hx, hb, hml, hown, hts⟩ (mX6_trade l D dA ad σ _ (gI σ 11 0 v4.toNatClampNeg) (gI σ 11 0 v4.toNatClampNeg) v2 x22 (gI σ 14 0 v4.toNatClampNeg) q30 hcq30) (cwV 5 hts gX6_127 rfl rfl rfl (by decide +kernel) ⟨Nat.le_of_ble_eq_true rfl, Nat.le_of_ble_eq_true rfl⟩) (preV_of hR hK (f := 0) (i := 0) rfl rfl rfl _) rfl rfl hl.1 rfl (lv_room (Nat.le_of_ble_eq_true rfl)) dX6_closes_143 ⟨Nat.zero_le _, Nat.zero_le _⟩) hA hR hS (fun H locs hR hS => ?_)
                refine lv_aload_n hx hb dX6_closes_146 rfl (lv_at hl 4 rfl) ?_
                refine va_get (D := D) (ci := 7) (C := RX6) (T := TX6) (N := 22) hx hb hts iuX6 hown hK.1 (WW_one hR (f := 0) (i := 0) rfl) 0 rfl rfl 16 (by decide) (hts _ q_824) (fun _ h9 => h9) rfl dX6_closes_147 ?_
                refine lv_iload hx hb dX6_closes_150 (lv_at hl 2 rfl) ?_
                refine lv_dup2_11 hx hb dX6_closes_152 rfl rfl ?_
                refine va_iald hx hb hK.1 (WW_one hR (f := 15) (i := 0) rfl) 0 0 rfl rfl g9 dX6_closes_153 ?_
                refine lv_iload hx hb dX6_closes_154 (lv_at hl 0 rfl) ?_
                refine lv_isub hx hb dX6_closes_156 ?_
                refine ww_iast hx hb hK.1 hR hS 0 (f := 15) (j := 0) rfl rfl rfl g9 dX6_closes_157 (fun H locs hR hS => ?_)
                have hR := HM_row15 0 (v4.toNatClampNeg) ((gI q30 15 0 v4.toNatClampNeg) - x22) hR
                refine lv_aload_n hx hb dX6_closes_158 rfl (lv_at hl 4 rfl) ?_
                refine lv_iload_n hx hb dX6_closes_159 rfl (lv_at hl 6 rfl) ?_
                refine lv_iload_n hx hb dX6_closes_160 rfl (lv_at hl 3 rfl) ?_
                obtain ⟨q31, hcq31, hf⟩ := bd_of hf
                refine kc_i (va_runV (As := [.int v2, .int v3]) (rest := []) ⟨hx, hb, hml, hown, hts⟩ (mX6_bestOf l D dA ad (pI q30 15 0 v4.toNatClampNeg ((gI q30 15 0 v4.toNatClampNeg) - x22)) _ v2 v3 q31 hcq31) (cwV 2 hts gX6_123 rfl rfl rfl (by decide +kernel) ⟨Nat.le_of_ble_eq_true rfl, Nat.le_of_ble_eq_true rfl⟩) (preV_of hR hK (f := 0) (i := 0) rfl rfl rfl _) rfl rfl hl.1 rfl (lv_room (Nat.le_of_ble_eq_true rfl)) dX6_closes_161 ⟨Nat.zero_le _, Nat.zero_le _⟩) hA hR hS (fun H locs hR hS => ?_)
                refine lv_istore (lv' := [(4, .int q31), (6, .int x22), (5, .int x8), (3, .int v3), (0, .ref (ad 0 0)), (1, .int v1), (2, .int v2)]) hx hb dX6_closes_164 hl (by decide) rfl (fun ls hl => ?_)
                refine lv_goto (tgt := 27) hx hb dX6_closes_166 (by decide) ?_
                exact ih _ _ _ (pI q30 15 0 v4.toNatClampNeg ((gI q30 15 0 v4.toNatClampNeg) - x22)) q31 v3 v1 v2 hR hS (lv_sub hl [0, 3, 4, 5, 6] rfl) hf
              · have hf := if_of_neg hf c29
                refine lv_iload_n hx hb dX6_closes_122 rfl (lv_at hl 5 rfl) ?_
                refine lv_goto (tgt := 133) hx hb dX6_closes_123 (by decide) ?_
                refine lv_iload_n hx hb dX6_closes_133 rfl (lv_at hl 6 rfl) ?_
                refine lv_iload hx hb dX6_closes_134 (lv_at hl 0 rfl) ?_
                refine lv_aload_n hx hb dX6_closes_136 rfl (lv_at hl 4 rfl) ?_
                refine va_get (D := D) (ci := 7) (C := RX6) (T := TX6) (N := 22) hx hb hts iuX6 hown hK.1 (WW_one hR (f := 0) (i := 0) rfl) 0 rfl rfl 15 (by decide) (hts _ q_823) (fun _ h9 => h9) rfl dX6_closes_137 ?_
                refine lv_iload hx hb dX6_closes_140 (lv_at hl 2 rfl) ?_
                refine va_iald hx hb hK.1 (WW_one hR (f := 14) (i := 0) rfl) 0 0 rfl rfl g9 dX6_closes_142 ?_
                obtain ⟨q32, hcq32, hf⟩ := bd_of hf
                refine kc_v (va_runV (As := [.int (gI σ 11 0 v4.toNatClampNeg), .int v1, .int v2, .int x22, .int (gI σ 14 0 v4.toNatClampNeg)]) (rest := []) ⟨hx, hb, hml, hown, hts⟩ (mX6_trade l D dA ad σ _ (gI σ 11 0 v4.toNatClampNeg) v1 v2 x22 (gI σ 14 0 v4.toNatClampNeg) q32 hcq32) (cwV 5 hts gX6_127 rfl rfl rfl (by decide +kernel) ⟨Nat.le_of_ble_eq_true rfl, Nat.le_of_ble_eq_true rfl⟩) (preV_of hR hK (f := 0) (i := 0) rfl rfl rfl _) rfl rfl hl.1 rfl (lv_room (Nat.le_of_ble_eq_true rfl)) dX6_closes_143 ⟨Nat.zero_le _, Nat.zero_le _⟩) hA hR hS (fun H locs hR hS => ?_)
                refine lv_aload_n hx hb dX6_closes_146 rfl (lv_at hl 4 rfl) ?_
                refine va_get (D := D) (ci := 7) (C := RX6) (T := TX6) (N := 22) hx hb hts iuX6 hown hK.1 (WW_one hR (f := 0) (i := 0) rfl) 0 rfl rfl 16 (by decide) (hts _ q_824) (fun _ h9 => h9) rfl dX6_closes_147 ?_
                refine lv_iload hx hb dX6_closes_150 (lv_at hl 2 rfl) ?_
                refine lv_dup2_11 hx hb dX6_closes_152 rfl rfl ?_
                refine va_iald hx hb hK.1 (WW_one hR (f := 15) (i := 0) rfl) 0 0 rfl rfl g9 dX6_closes_153 ?_
                refine lv_iload hx hb dX6_closes_154 (lv_at hl 0 rfl) ?_
                refine lv_isub hx hb dX6_closes_156 ?_
                refine ww_iast hx hb hK.1 hR hS 0 (f := 15) (j := 0) rfl rfl rfl g9 dX6_closes_157 (fun H locs hR hS => ?_)
                have hR := HM_row15 0 (v4.toNatClampNeg) ((gI q32 15 0 v4.toNatClampNeg) - x22) hR
                refine lv_aload_n hx hb dX6_closes_158 rfl (lv_at hl 4 rfl) ?_
                refine lv_iload_n hx hb dX6_closes_159 rfl (lv_at hl 6 rfl) ?_
                refine lv_iload_n hx hb dX6_closes_160 rfl (lv_at hl 3 rfl) ?_
                obtain ⟨q33, hcq33, hf⟩ := bd_of hf
                refine kc_i (va_runV (As := [.int v2, .int v3]) (rest := []) ⟨hx, hb, hml, hown, hts⟩ (mX6_bestOf l D dA ad (pI q32 15 0 v4.toNatClampNeg ((gI q32 15 0 v4.toNatClampNeg) - x22)) _ v2 v3 q33 hcq33) (cwV 2 hts gX6_123 rfl rfl rfl (by decide +kernel) ⟨Nat.le_of_ble_eq_true rfl, Nat.le_of_ble_eq_true rfl⟩) (preV_of hR hK (f := 0) (i := 0) rfl rfl rfl _) rfl rfl hl.1 rfl (lv_room (Nat.le_of_ble_eq_true rfl)) dX6_closes_161 ⟨Nat.zero_le _, Nat.zero_le _⟩) hA hR hS (fun H locs hR hS => ?_)
                refine lv_istore (lv' := [(4, .int q33), (6, .int x22), (5, .int x8), (3, .int v3), (0, .ref (ad 0 0)), (1, .int v1), (2, .int v2)]) hx hb dX6_closes_164 hl (by decide) rfl (fun ls hl => ?_)
                refine lv_goto (tgt := 27) hx hb dX6_closes_166 (by decide) ?_
                exact ih _ _ _ (pI q32 15 0 v4.toNatClampNeg ((gI q32 15 0 v4.toNatClampNeg) - x22)) q33 v3 v1 v2 hR hS (lv_sub hl [0, 3, 4, 5, 6] rfl) hf
        · have hf := if_of_neg hf c7
          refine lv_aload_n hx hb dX6_closes_50 rfl (lv_at hl 2 rfl) ?_
          refine va_get (D := D) (ci := 7) (C := RX6) (T := TX6) (N := 22) hx hb hts iuX6 hown hK.1 (WW_one hR (f := 0) (i := 0) rfl) 0 rfl rfl 3 (by decide) (hts _ q_811) (fun _ h9 => h9) rfl dX6_closes_51 ?_
          refine lv_iconst (v := 3) hx hb dX6_closes_54 (by decide) ?_
          refine lv_iload_n hx hb dX6_closes_55 rfl (lv_at hl 3 rfl) ?_
          refine lv_imul hx hb dX6_closes_56 ?_
          refine lv_iload_n hx hb dX6_closes_57 rfl (lv_at hl 4 rfl) ?_
          refine lv_iadd hx hb dX6_closes_58 ?_
          refine va_iald hx hb hK.1 (WW_one hR (f := 4) (i := 0) rfl) 0 0 rfl rfl g4 dX6_closes_59 ?_
          refine lv_goto (tgt := 74) hx hb dX6_closes_60 (by decide) ?_
          refine lv_topi (fun x34 hx34 => ?_)
          have hf := kst_eq hx34 hf
          refine lv_istore (lv' := [(5, .int x34), (4, .int v4), (3, .int v3), (0, .ref (ad 0 0)), (1, .int v1), (2, .int v2)]) hx hb dX6_closes_74 hl (by decide) rfl (fun ls hl => ?_)
          refine lv_aload_n hx hb dX6_closes_76 rfl (lv_at hl 3 rfl) ?_
          refine va_get (D := D) (ci := 7) (C := RX6) (T := TX6) (N := 22) hx hb hts iuX6 hown hK.1 (WW_one hR (f := 0) (i := 0) rfl) 0 rfl rfl 16 (by decide) (hts _ q_824) (fun _ h9 => h9) rfl dX6_closes_77 ?_
          refine lv_iload hx hb dX6_closes_80 (lv_at hl 1 rfl) ?_
          obtain ⟨g35, hf⟩ := gd_of hf
          refine va_iald hx hb hK.1 (WW_one hR (f := 15) (i := 0) rfl) 0 0 rfl rfl g35 dX6_closes_82 ?_
          refine lv_iload hx hb dX6_closes_83 (lv_at hl 0 rfl) ?_
          refine lv_icmp_ge (tgt := 98) hx hb dX6_closes_85 (by decide) (fun c36 => ?_) (fun c36 => ?_)
          · have hf := if_of_pos hf c36
            refine lv_iload hx hb dX6_closes_98 (lv_at hl 0 rfl) ?_
            refine lv_istore (lv' := [(6, .int x34), (5, .int x34), (4, .int v4), (3, .int v3), (0, .ref (ad 0 0)), (1, .int v1), (2, .int v2)]) hx hb dX6_closes_100 hl (by decide) rfl (fun ls hl => ?_)
            refine lv_aload_n hx hb dX6_closes_102 rfl (lv_at hl 4 rfl) ?_
            refine lv_iload_n hx hb dX6_closes_103 rfl (lv_at hl 3 rfl) ?_
            refine lv_if_eq (tgt := 117) hx hb dX6_closes_104 (by decide) (fun c37 => ?_) (fun c37 => ?_)
            · have hf := if_of_pos hf c37
              refine lv_iload_n hx hb dX6_closes_117 rfl (lv_at hl 5 rfl) ?_
              refine lv_iload_n hx hb dX6_closes_118 rfl (lv_at hl 3 rfl) ?_
              refine lv_if_eq (tgt := 126) hx hb dX6_closes_119 (by decide) (fun c38 => ?_) (fun c38 => ?_)
              · have hf := if_of_pos hf c38
                refine lv_aload_n hx hb dX6_closes_126 rfl (lv_at hl 4 rfl) ?_
                refine va_get (D := D) (ci := 7) (C := RX6) (T := TX6) (N := 22) hx hb hts iuX6 hown hK.1 (WW_one hR (f := 0) (i := 0) rfl) 0 rfl rfl 12 (by decide) (hts _ q_820) (fun _ h9 => h9) rfl dX6_closes_127 ?_
                refine lv_iload hx hb dX6_closes_130 (lv_at hl 2 rfl) ?_
                refine va_iald hx hb hK.1 (WW_one hR (f := 11) (i := 0) rfl) 0 0 rfl rfl g35 dX6_closes_132 ?_
                refine lv_iload_n hx hb dX6_closes_133 rfl (lv_at hl 6 rfl) ?_
                refine lv_iload hx hb dX6_closes_134 (lv_at hl 0 rfl) ?_
                refine lv_aload_n hx hb dX6_closes_136 rfl (lv_at hl 4 rfl) ?_
                refine va_get (D := D) (ci := 7) (C := RX6) (T := TX6) (N := 22) hx hb hts iuX6 hown hK.1 (WW_one hR (f := 0) (i := 0) rfl) 0 rfl rfl 15 (by decide) (hts _ q_823) (fun _ h9 => h9) rfl dX6_closes_137 ?_
                refine lv_iload hx hb dX6_closes_140 (lv_at hl 2 rfl) ?_
                refine va_iald hx hb hK.1 (WW_one hR (f := 14) (i := 0) rfl) 0 0 rfl rfl g35 dX6_closes_142 ?_
                obtain ⟨q39, hcq39, hf⟩ := bd_of hf
                refine kc_v (va_runV (As := [.int v1, .int (gI σ 11 0 v4.toNatClampNeg), .int v2, .int x34, .int (gI σ 14 0 v4.toNatClampNeg)]) (rest := []) ⟨hx, hb, hml, hown, hts⟩ (mX6_trade l D dA ad σ _ v1 (gI σ 11 0 v4.toNatClampNeg) v2 x34 (gI σ 14 0 v4.toNatClampNeg) q39 hcq39) (cwV 5 hts gX6_127 rfl rfl rfl (by decide +kernel) ⟨Nat.le_of_ble_eq_true rfl, Nat.le_of_ble_eq_true rfl⟩) (preV_of hR hK (f := 0) (i := 0) rfl rfl rfl _) rfl rfl hl.1 rfl (lv_room (Nat.le_of_ble_eq_true rfl)) dX6_closes_143 ⟨Nat.zero_le _, Nat.zero_le _⟩) hA hR hS (fun H locs hR hS => ?_)
                refine lv_aload_n hx hb dX6_closes_146 rfl (lv_at hl 4 rfl) ?_
                refine va_get (D := D) (ci := 7) (C := RX6) (T := TX6) (N := 22) hx hb hts iuX6 hown hK.1 (WW_one hR (f := 0) (i := 0) rfl) 0 rfl rfl 16 (by decide) (hts _ q_824) (fun _ h9 => h9) rfl dX6_closes_147 ?_
                refine lv_iload hx hb dX6_closes_150 (lv_at hl 2 rfl) ?_
                refine lv_dup2_11 hx hb dX6_closes_152 rfl rfl ?_
                refine va_iald hx hb hK.1 (WW_one hR (f := 15) (i := 0) rfl) 0 0 rfl rfl g35 dX6_closes_153 ?_
                refine lv_iload hx hb dX6_closes_154 (lv_at hl 0 rfl) ?_
                refine lv_isub hx hb dX6_closes_156 ?_
                refine ww_iast hx hb hK.1 hR hS 0 (f := 15) (j := 0) rfl rfl rfl g35 dX6_closes_157 (fun H locs hR hS => ?_)
                have hR := HM_row15 0 (v4.toNatClampNeg) ((gI q39 15 0 v4.toNatClampNeg) - x34) hR
                refine lv_aload_n hx hb dX6_closes_158 rfl (lv_at hl 4 rfl) ?_
                refine lv_iload_n hx hb dX6_closes_159 rfl (lv_at hl 6 rfl) ?_
                refine lv_iload_n hx hb dX6_closes_160 rfl (lv_at hl 3 rfl) ?_
                obtain ⟨q40, hcq40, hf⟩ := bd_of hf
                refine kc_i (va_runV (As := [.int v2, .int v3]) (rest := []) ⟨hx, hb, hml, hown, hts⟩ (mX6_bestOf l D dA ad (pI q39 15 0 v4.toNatClampNeg ((gI q39 15 0 v4.toNatClampNeg) - x34)) _ v2 v3 q40 hcq40) (cwV 2 hts gX6_123 rfl rfl rfl (by decide +kernel) ⟨Nat.le_of_ble_eq_true rfl, Nat.le_of_ble_eq_true rfl⟩) (preV_of hR hK (f := 0) (i := 0) rfl rfl rfl _) rfl rfl hl.1 rfl (lv_room (Nat.le_of_ble_eq_true rfl)) dX6_closes_161 ⟨Nat.zero_le _, Nat.zero_le _⟩) hA hR hS (fun H locs hR hS => ?_)
                refine lv_istore (lv' := [(4, .int q40), (6, .int x34), (5, .int x34), (3, .int v3), (0, .ref (ad 0 0)), (1, .int v1), (2, .int v2)]) hx hb dX6_closes_164 hl (by decide) rfl (fun ls hl => ?_)
                refine lv_goto (tgt := 27) hx hb dX6_closes_166 (by decide) ?_
                exact ih _ _ _ (pI q39 15 0 v4.toNatClampNeg ((gI q39 15 0 v4.toNatClampNeg) - x34)) q40 v3 v1 v2 hR hS (lv_sub hl [0, 3, 4, 5, 6] rfl) hf
              · have hf := if_of_neg hf c38
                refine lv_iload_n hx hb dX6_closes_122 rfl (lv_at hl 5 rfl) ?_
                refine lv_goto (tgt := 133) hx hb dX6_closes_123 (by decide) ?_
                refine lv_iload_n hx hb dX6_closes_133 rfl (lv_at hl 6 rfl) ?_
                refine lv_iload hx hb dX6_closes_134 (lv_at hl 0 rfl) ?_
                refine lv_aload_n hx hb dX6_closes_136 rfl (lv_at hl 4 rfl) ?_
                refine va_get (D := D) (ci := 7) (C := RX6) (T := TX6) (N := 22) hx hb hts iuX6 hown hK.1 (WW_one hR (f := 0) (i := 0) rfl) 0 rfl rfl 15 (by decide) (hts _ q_823) (fun _ h9 => h9) rfl dX6_closes_137 ?_
                refine lv_iload hx hb dX6_closes_140 (lv_at hl 2 rfl) ?_
                refine va_iald hx hb hK.1 (WW_one hR (f := 14) (i := 0) rfl) 0 0 rfl rfl g35 dX6_closes_142 ?_
                obtain ⟨q41, hcq41, hf⟩ := bd_of hf
                refine kc_v (va_runV (As := [.int v1, .int v1, .int v2, .int x34, .int (gI σ 14 0 v4.toNatClampNeg)]) (rest := []) ⟨hx, hb, hml, hown, hts⟩ (mX6_trade l D dA ad σ _ v1 v1 v2 x34 (gI σ 14 0 v4.toNatClampNeg) q41 hcq41) (cwV 5 hts gX6_127 rfl rfl rfl (by decide +kernel) ⟨Nat.le_of_ble_eq_true rfl, Nat.le_of_ble_eq_true rfl⟩) (preV_of hR hK (f := 0) (i := 0) rfl rfl rfl _) rfl rfl hl.1 rfl (lv_room (Nat.le_of_ble_eq_true rfl)) dX6_closes_143 ⟨Nat.zero_le _, Nat.zero_le _⟩) hA hR hS (fun H locs hR hS => ?_)
                refine lv_aload_n hx hb dX6_closes_146 rfl (lv_at hl 4 rfl) ?_
                refine va_get (D := D) (ci := 7) (C := RX6) (T := TX6) (N := 22) hx hb hts iuX6 hown hK.1 (WW_one hR (f := 0) (i := 0) rfl) 0 rfl rfl 16 (by decide) (hts _ q_824) (fun _ h9 => h9) rfl dX6_closes_147 ?_
                refine lv_iload hx hb dX6_closes_150 (lv_at hl 2 rfl) ?_
                refine lv_dup2_11 hx hb dX6_closes_152 rfl rfl ?_
                refine va_iald hx hb hK.1 (WW_one hR (f := 15) (i := 0) rfl) 0 0 rfl rfl g35 dX6_closes_153 ?_
                refine lv_iload hx hb dX6_closes_154 (lv_at hl 0 rfl) ?_
                refine lv_isub hx hb dX6_closes_156 ?_
                refine ww_iast hx hb hK.1 hR hS 0 (f := 15) (j := 0) rfl rfl rfl g35 dX6_closes_157 (fun H locs hR hS => ?_)
                have hR := HM_row15 0 (v4.toNatClampNeg) ((gI q41 15 0 v4.toNatClampNeg) - x34) hR
                refine lv_aload_n hx hb dX6_closes_158 rfl (lv_at hl 4 rfl) ?_
                refine lv_iload_n hx hb dX6_closes_159 rfl (lv_at hl 6 rfl) ?_
                refine lv_iload_n hx hb dX6_closes_160 rfl (lv_at hl 3 rfl) ?_
                obtain ⟨q42, hcq42, hf⟩ := bd_of hf
                refine kc_i (va_runV (As := [.int v2, .int v3]) (rest := []) ⟨hx, hb, hml, hown, hts⟩ (mX6_bestOf l D dA ad (pI q41 15 0 v4.toNatClampNeg ((gI q41 15 0 v4.toNatClampNeg) - x34)) _ v2 v3 q42 hcq42) (cwV 2 hts gX6_123 rfl rfl rfl (by decide +kernel) ⟨Nat.le_of_ble_eq_true rfl, Nat.le_of_ble_eq_true rfl⟩) (preV_of hR hK (f := 0) (i := 0) rfl rfl rfl _) rfl rfl hl.1 rfl (lv_room (Nat.le_of_ble_eq_true rfl)) dX6_closes_161 ⟨Nat.zero_le _, Nat.zero_le _⟩) hA hR hS (fun H locs hR hS => ?_)
                refine lv_istore (lv' := [(4, .int q42), (6, .int x34), (5, .int x34), (3, .int v3), (0, .ref (ad 0 0)), (1, .int v1), (2, .int v2)]) hx hb dX6_closes_164 hl (by decide) rfl (fun ls hl => ?_)
                refine lv_goto (tgt := 27) hx hb dX6_closes_166 (by decide) ?_
                exact ih _ _ _ (pI q41 15 0 v4.toNatClampNeg ((gI q41 15 0 v4.toNatClampNeg) - x34)) q42 v3 v1 v2 hR hS (lv_sub hl [0, 3, 4, 5, 6] rfl) hf
            · have hf := if_of_neg hf c37
              refine lv_aload_n hx hb dX6_closes_107 rfl (lv_at hl 4 rfl) ?_
              refine va_get (D := D) (ci := 7) (C := RX6) (T := TX6) (N := 22) hx hb hts iuX6 hown hK.1 (WW_one hR (f := 0) (i := 0) rfl) 0 rfl rfl 12 (by decide) (hts _ q_820) (fun _ h9 => h9) rfl dX6_closes_108 ?_
              refine lv_iload hx hb dX6_closes_111 (lv_at hl 2 rfl) ?_
              refine va_iald hx hb hK.1 (WW_one hR (f := 11) (i := 0) rfl) 0 0 rfl rfl g35 dX6_closes_113 ?_
              refine lv_goto (tgt := 118) hx hb dX6_closes_114 (by decide) ?_
              refine lv_iload_n hx hb dX6_closes_118 rfl (lv_at hl 3 rfl) ?_
              refine lv_if_eq (tgt := 126) hx hb dX6_closes_119 (by decide) (fun c43 => ?_) (fun c43 => ?_)
              · have hf := if_of_pos hf c43
                refine lv_aload_n hx hb dX6_closes_126 rfl (lv_at hl 4 rfl) ?_
                refine va_get (D := D) (ci := 7) (C := RX6) (T := TX6) (N := 22) hx hb hts iuX6 hown hK.1 (WW_one hR (f := 0) (i := 0) rfl) 0 rfl rfl 12 (by decide) (hts _ q_820) (fun _ h9 => h9) rfl dX6_closes_127 ?_
                refine lv_iload hx hb dX6_closes_130 (lv_at hl 2 rfl) ?_
                refine va_iald hx hb hK.1 (WW_one hR (f := 11) (i := 0) rfl) 0 0 rfl rfl g35 dX6_closes_132 ?_
                refine lv_iload_n hx hb dX6_closes_133 rfl (lv_at hl 6 rfl) ?_
                refine lv_iload hx hb dX6_closes_134 (lv_at hl 0 rfl) ?_
                refine lv_aload_n hx hb dX6_closes_136 rfl (lv_at hl 4 rfl) ?_
                refine va_get (D := D) (ci := 7) (C := RX6) (T := TX6) (N := 22) hx hb hts iuX6 hown hK.1 (WW_one hR (f := 0) (i := 0) rfl) 0 rfl rfl 15 (by decide) (hts _ q_823) (fun _ h9 => h9) rfl dX6_closes_137 ?_
                refine lv_iload hx hb dX6_closes_140 (lv_at hl 2 rfl) ?_
                refine va_iald hx hb hK.1 (WW_one hR (f := 14) (i := 0) rfl) 0 0 rfl rfl g35 dX6_closes_142 ?_
                obtain ⟨q44, hcq44, hf⟩ := bd_of hf
                refine kc_v (va_runV (As := [.int (gI σ 11 0 v4.toNatClampNeg), .int (gI σ 11 0 v4.toNatClampNeg), .int v2, .int x34, .int (gI σ 14 0 v4.toNatClampNeg)]) (rest := []) ⟨hx, hb, hml, hown, hts⟩ (mX6_trade l D dA ad σ _ (gI σ 11 0 v4.toNatClampNeg) (gI σ 11 0 v4.toNatClampNeg) v2 x34 (gI σ 14 0 v4.toNatClampNeg) q44 hcq44) (cwV 5 hts gX6_127 rfl rfl rfl (by decide +kernel) ⟨Nat.le_of_ble_eq_true rfl, Nat.le_of_ble_eq_true rfl⟩) (preV_of hR hK (f := 0) (i := 0) rfl rfl rfl _) rfl rfl hl.1 rfl (lv_room (Nat.le_of_ble_eq_true rfl)) dX6_closes_143 ⟨Nat.zero_le _, Nat.zero_le _⟩) hA hR hS (fun H locs hR hS => ?_)
                refine lv_aload_n hx hb dX6_closes_146 rfl (lv_at hl 4 rfl) ?_
                refine va_get (D := D) (ci := 7) (C := RX6) (T := TX6) (N := 22) hx hb hts iuX6 hown hK.1 (WW_one hR (f := 0) (i := 0) rfl) 0 rfl rfl 16 (by decide) (hts _ q_824) (fun _ h9 => h9) rfl dX6_closes_147 ?_
                refine lv_iload hx hb dX6_closes_150 (lv_at hl 2 rfl) ?_
                refine lv_dup2_11 hx hb dX6_closes_152 rfl rfl ?_
                refine va_iald hx hb hK.1 (WW_one hR (f := 15) (i := 0) rfl) 0 0 rfl rfl g35 dX6_closes_153 ?_
                refine lv_iload hx hb dX6_closes_154 (lv_at hl 0 rfl) ?_
                refine lv_isub hx hb dX6_closes_156 ?_
                refine ww_iast hx hb hK.1 hR hS 0 (f := 15) (j := 0) rfl rfl rfl g35 dX6_closes_157 (fun H locs hR hS => ?_)
                have hR := HM_row15 0 (v4.toNatClampNeg) ((gI q44 15 0 v4.toNatClampNeg) - x34) hR
                refine lv_aload_n hx hb dX6_closes_158 rfl (lv_at hl 4 rfl) ?_
                refine lv_iload_n hx hb dX6_closes_159 rfl (lv_at hl 6 rfl) ?_
                refine lv_iload_n hx hb dX6_closes_160 rfl (lv_at hl 3 rfl) ?_
                obtain ⟨q45, hcq45, hf⟩ := bd_of hf
                refine kc_i (va_runV (As := [.int v2, .int v3]) (rest := []) ⟨hx, hb, hml, hown, hts⟩ (mX6_bestOf l D dA ad (pI q44 15 0 v4.toNatClampNeg ((gI q44 15 0 v4.toNatClampNeg) - x34)) _ v2 v3 q45 hcq45) (cwV 2 hts gX6_123 rfl rfl rfl (by decide +kernel) ⟨Nat.le_of_ble_eq_true rfl, Nat.le_of_ble_eq_true rfl⟩) (preV_of hR hK (f := 0) (i := 0) rfl rfl rfl _) rfl rfl hl.1 rfl (lv_room (Nat.le_of_ble_eq_true rfl)) dX6_closes_161 ⟨Nat.zero_le _, Nat.zero_le _⟩) hA hR hS (fun H locs hR hS => ?_)
                refine lv_istore (lv' := [(4, .int q45), (6, .int x34), (5, .int x34), (3, .int v3), (0, .ref (ad 0 0)), (1, .int v1), (2, .int v2)]) hx hb dX6_closes_164 hl (by decide) rfl (fun ls hl => ?_)
                refine lv_goto (tgt := 27) hx hb dX6_closes_166 (by decide) ?_
                exact ih _ _ _ (pI q44 15 0 v4.toNatClampNeg ((gI q44 15 0 v4.toNatClampNeg) - x34)) q45 v3 v1 v2 hR hS (lv_sub hl [0, 3, 4, 5, 6] rfl) hf
              · have hf := if_of_neg hf c43
                refine lv_iload_n hx hb dX6_closes_122 rfl (lv_at hl 5 rfl) ?_
                refine lv_goto (tgt := 133) hx hb dX6_closes_123 (by decide) ?_
                refine lv_iload_n hx hb dX6_closes_133 rfl (lv_at hl 6 rfl) ?_
                refine lv_iload hx hb dX6_closes_134 (lv_at hl 0 rfl) ?_
                refine lv_aload_n hx hb dX6_closes_136 rfl (lv_at hl 4 rfl) ?_
                refine va_get (D := D) (ci := 7) (C := RX6) (T := TX6) (N := 22) hx hb hts iuX6 hown hK.1 (WW_one hR (f := 0) (i := 0) rfl) 0 rfl rfl 15 (by decide) (hts _ q_823) (fun _ h9 => h9) rfl dX6_closes_137 ?_
                refine lv_iload hx hb dX6_closes_140 (lv_at hl 2 rfl) ?_
                refine va_iald hx hb hK.1 (WW_one hR (f := 14) (i := 0) rfl) 0 0 rfl rfl g35 dX6_closes_142 ?_
                obtain ⟨q46, hcq46, hf⟩ := bd_of hf
                refine kc_v (va_runV (As := [.int (gI σ 11 0 v4.toNatClampNeg), .int v1, .int v2, .int x34, .int (gI σ 14 0 v4.toNatClampNeg)]) (rest := []) ⟨hx, hb, hml, hown, hts⟩ (mX6_trade l D dA ad σ _ (gI σ 11 0 v4.toNatClampNeg) v1 v2 x34 (gI σ 14 0 v4.toNatClampNeg) q46 hcq46) (cwV 5 hts gX6_127 rfl rfl rfl (by decide +kernel) ⟨Nat.le_of_ble_eq_true rfl, Nat.le_of_ble_eq_true rfl⟩) (preV_of hR hK (f := 0) (i := 0) rfl rfl rfl _) rfl rfl hl.1 rfl (lv_room (Nat.le_of_ble_eq_true rfl)) dX6_closes_143 ⟨Nat.zero_le _, Nat.zero_le _⟩) hA hR hS (fun H locs hR hS => ?_)
                refine lv_aload_n hx hb dX6_closes_146 rfl (lv_at hl 4 rfl) ?_
                refine va_get (D := D) (ci := 7) (C := RX6) (T := TX6) (N := 22) hx hb hts iuX6 hown hK.1 (WW_one hR (f := 0) (i := 0) rfl) 0 rfl rfl 16 (by decide) (hts _ q_824) (fun _ h9 => h9) rfl dX6_closes_147 ?_
                refine lv_iload hx hb dX6_closes_150 (lv_at hl 2 rfl) ?_
                refine lv_dup2_11 hx hb dX6_closes_152 rfl rfl ?_
                refine va_iald hx hb hK.1 (WW_one hR (f := 15) (i := 0) rfl) 0 0 rfl rfl g35 dX6_closes_153 ?_
                refine lv_iload hx hb dX6_closes_154 (lv_at hl 0 rfl) ?_
                refine lv_isub hx hb dX6_closes_156 ?_
                refine ww_iast hx hb hK.1 hR hS 0 (f := 15) (j := 0) rfl rfl rfl g35 dX6_closes_157 (fun H locs hR hS => ?_)
                have hR := HM_row15 0 (v4.toNatClampNeg) ((gI q46 15 0 v4.toNatClampNeg) - x34) hR
                refine lv_aload_n hx hb dX6_closes_158 rfl (lv_at hl 4 rfl) ?_
                refine lv_iload_n hx hb dX6_closes_159 rfl (lv_at hl 6 rfl) ?_
                refine lv_iload_n hx hb dX6_closes_160 rfl (lv_at hl 3 rfl) ?_
                obtain ⟨q47, hcq47, hf⟩ := bd_of hf
                refine kc_i (va_runV (As := [.int v2, .int v3]) (rest := []) ⟨hx, hb, hml, hown, hts⟩ (mX6_bestOf l D dA ad (pI q46 15 0 v4.toNatClampNeg ((gI q46 15 0 v4.toNatClampNeg) - x34)) _ v2 v3 q47 hcq47) (cwV 2 hts gX6_123 rfl rfl rfl (by decide +kernel) ⟨Nat.le_of_ble_eq_true rfl, Nat.le_of_ble_eq_true rfl⟩) (preV_of hR hK (f := 0) (i := 0) rfl rfl rfl _) rfl rfl hl.1 rfl (lv_room (Nat.le_of_ble_eq_true rfl)) dX6_closes_161 ⟨Nat.zero_le _, Nat.zero_le _⟩) hA hR hS (fun H locs hR hS => ?_)
                refine lv_istore (lv' := [(4, .int q47), (6, .int x34), (5, .int x34), (3, .int v3), (0, .ref (ad 0 0)), (1, .int v1), (2, .int v2)]) hx hb dX6_closes_164 hl (by decide) rfl (fun ls hl => ?_)
                refine lv_goto (tgt := 27) hx hb dX6_closes_166 (by decide) ?_
                exact ih _ _ _ (pI q46 15 0 v4.toNatClampNeg ((gI q46 15 0 v4.toNatClampNeg) - x34)) q47 v3 v1 v2 hR hS (lv_sub hl [0, 3, 4, 5, 6] rfl) hf
          · have hf := if_of_neg hf c36
            refine lv_aload_n hx hb dX6_closes_88 rfl (lv_at hl 3 rfl) ?_
            refine va_get (D := D) (ci := 7) (C := RX6) (T := TX6) (N := 22) hx hb hts iuX6 hown hK.1 (WW_one hR (f := 0) (i := 0) rfl) 0 rfl rfl 16 (by decide) (hts _ q_824) (fun _ h9 => h9) rfl dX6_closes_89 ?_
            refine lv_iload hx hb dX6_closes_92 (lv_at hl 1 rfl) ?_
            refine va_iald hx hb hK.1 (WW_one hR (f := 15) (i := 0) rfl) 0 0 rfl rfl g35 dX6_closes_94 ?_
            refine lv_goto (tgt := 100) hx hb dX6_closes_95 (by decide) ?_
            refine lv_topi (fun x48 hx48 => ?_)
            have hf := kst_eq hx48 hf
            refine lv_istore (lv' := [(6, .int x48), (5, .int x34), (4, .int v4), (3, .int v3), (0, .ref (ad 0 0)), (1, .int v1), (2, .int v2)]) hx hb dX6_closes_100 hl (by decide) rfl (fun ls hl => ?_)
            refine lv_aload_n hx hb dX6_closes_102 rfl (lv_at hl 4 rfl) ?_
            refine lv_iload_n hx hb dX6_closes_103 rfl (lv_at hl 3 rfl) ?_
            refine lv_if_eq (tgt := 117) hx hb dX6_closes_104 (by decide) (fun c49 => ?_) (fun c49 => ?_)
            · have hf := if_of_pos hf c49
              refine lv_iload_n hx hb dX6_closes_117 rfl (lv_at hl 5 rfl) ?_
              refine lv_iload_n hx hb dX6_closes_118 rfl (lv_at hl 3 rfl) ?_
              refine lv_if_eq (tgt := 126) hx hb dX6_closes_119 (by decide) (fun c50 => ?_) (fun c50 => ?_)
              · have hf := if_of_pos hf c50
                refine lv_aload_n hx hb dX6_closes_126 rfl (lv_at hl 4 rfl) ?_
                refine va_get (D := D) (ci := 7) (C := RX6) (T := TX6) (N := 22) hx hb hts iuX6 hown hK.1 (WW_one hR (f := 0) (i := 0) rfl) 0 rfl rfl 12 (by decide) (hts _ q_820) (fun _ h9 => h9) rfl dX6_closes_127 ?_
                refine lv_iload hx hb dX6_closes_130 (lv_at hl 2 rfl) ?_
                refine va_iald hx hb hK.1 (WW_one hR (f := 11) (i := 0) rfl) 0 0 rfl rfl g35 dX6_closes_132 ?_
                refine lv_iload_n hx hb dX6_closes_133 rfl (lv_at hl 6 rfl) ?_
                refine lv_iload hx hb dX6_closes_134 (lv_at hl 0 rfl) ?_
                refine lv_aload_n hx hb dX6_closes_136 rfl (lv_at hl 4 rfl) ?_
                refine va_get (D := D) (ci := 7) (C := RX6) (T := TX6) (N := 22) hx hb hts iuX6 hown hK.1 (WW_one hR (f := 0) (i := 0) rfl) 0 rfl rfl 15 (by decide) (hts _ q_823) (fun _ h9 => h9) rfl dX6_closes_137 ?_
                refine lv_iload hx hb dX6_closes_140 (lv_at hl 2 rfl) ?_
                refine va_iald hx hb hK.1 (WW_one hR (f := 14) (i := 0) rfl) 0 0 rfl rfl g35 dX6_closes_142 ?_
                obtain ⟨q51, hcq51, hf⟩ := bd_of hf
                refine kc_v (va_runV (As := [.int v1, .int (gI σ 11 0 v4.toNatClampNeg), .int v2, .int x48, .int (gI σ 14 0 v4.toNatClampNeg)]) (rest := []) ⟨hx, hb, hml, hown, hts⟩ (mX6_trade l D dA ad σ _ v1 (gI σ 11 0 v4.toNatClampNeg) v2 x48 (gI σ 14 0 v4.toNatClampNeg) q51 hcq51) (cwV 5 hts gX6_127 rfl rfl rfl (by decide +kernel) ⟨Nat.le_of_ble_eq_true rfl, Nat.le_of_ble_eq_true rfl⟩) (preV_of hR hK (f := 0) (i := 0) rfl rfl rfl _) rfl rfl hl.1 rfl (lv_room (Nat.le_of_ble_eq_true rfl)) dX6_closes_143 ⟨Nat.zero_le _, Nat.zero_le _⟩) hA hR hS (fun H locs hR hS => ?_)
                refine lv_aload_n hx hb dX6_closes_146 rfl (lv_at hl 4 rfl) ?_
                refine va_get (D := D) (ci := 7) (C := RX6) (T := TX6) (N := 22) hx hb hts iuX6 hown hK.1 (WW_one hR (f := 0) (i := 0) rfl) 0 rfl rfl 16 (by decide) (hts _ q_824) (fun _ h9 => h9) rfl dX6_closes_147 ?_
                refine lv_iload hx hb dX6_closes_150 (lv_at hl 2 rfl) ?_
                refine lv_dup2_11 hx hb dX6_closes_152 rfl rfl ?_
                refine va_iald hx hb hK.1 (WW_one hR (f := 15) (i := 0) rfl) 0 0 rfl rfl g35 dX6_closes_153 ?_
                refine lv_iload hx hb dX6_closes_154 (lv_at hl 0 rfl) ?_
                refine lv_isub hx hb dX6_closes_156 ?_
                refine ww_iast hx hb hK.1 hR hS 0 (f := 15) (j := 0) rfl rfl rfl g35 dX6_closes_157 (fun H locs hR hS => ?_)
                have hR := HM_row15 0 (v4.toNatClampNeg) ((gI q51 15 0 v4.toNatClampNeg) - x48) hR
                refine lv_aload_n hx hb dX6_closes_158 rfl (lv_at hl 4 rfl) ?_
                refine lv_iload_n hx hb dX6_closes_159 rfl (lv_at hl 6 rfl) ?_
                refine lv_iload_n hx hb dX6_closes_160 rfl (lv_at hl 3 rfl) ?_
                obtain ⟨q52, hcq52, hf⟩ := bd_of hf
                refine kc_i (va_runV (As := [.int v2, .int v3]) (rest := []) ⟨hx, hb, hml, hown, hts⟩ (mX6_bestOf l D dA ad (pI q51 15 0 v4.toNatClampNeg ((gI q51 15 0 v4.toNatClampNeg) - x48)) _ v2 v3 q52 hcq52) (cwV 2 hts gX6_123 rfl rfl rfl (by decide +kernel) ⟨Nat.le_of_ble_eq_true rfl, Nat.le_of_ble_eq_true rfl⟩) (preV_of hR hK (f := 0) (i := 0) rfl rfl rfl _) rfl rfl hl.1 rfl (lv_room (Nat.le_of_ble_eq_true rfl)) dX6_closes_161 ⟨Nat.zero_le _, Nat.zero_le _⟩) hA hR hS (fun H locs hR hS => ?_)
                refine lv_istore (lv' := [(4, .int q52), (6, .int x48), (5, .int x34), (3, .int v3), (0, .ref (ad 0 0)), (1, .int v1), (2, .int v2)]) hx hb dX6_closes_164 hl (by decide) rfl (fun ls hl => ?_)
                refine lv_goto (tgt := 27) hx hb dX6_closes_166 (by decide) ?_
                exact ih _ _ _ (pI q51 15 0 v4.toNatClampNeg ((gI q51 15 0 v4.toNatClampNeg) - x48)) q52 v3 v1 v2 hR hS (lv_sub hl [0, 3, 4, 5, 6] rfl) hf
              · have hf := if_of_neg hf c50
                refine lv_iload_n hx hb dX6_closes_122 rfl (lv_at hl 5 rfl) ?_
                refine lv_goto (tgt := 133) hx hb dX6_closes_123 (by decide) ?_
                refine lv_iload_n hx hb dX6_closes_133 rfl (lv_at hl 6 rfl) ?_
                refine lv_iload hx hb dX6_closes_134 (lv_at hl 0 rfl) ?_
                refine lv_aload_n hx hb dX6_closes_136 rfl (lv_at hl 4 rfl) ?_
                refine va_get (D := D) (ci := 7) (C := RX6) (T := TX6) (N := 22) hx hb hts iuX6 hown hK.1 (WW_one hR (f := 0) (i := 0) rfl) 0 rfl rfl 15 (by decide) (hts _ q_823) (fun _ h9 => h9) rfl dX6_closes_137 ?_
                refine lv_iload hx hb dX6_closes_140 (lv_at hl 2 rfl) ?_
                refine va_iald hx hb hK.1 (WW_one hR (f := 14) (i := 0) rfl) 0 0 rfl rfl g35 dX6_closes_142 ?_
                obtain ⟨q53, hcq53, hf⟩ := bd_of hf
                refine kc_v (va_runV (As := [.int v1, .int v1, .int v2, .int x48, .int (gI σ 14 0 v4.toNatClampNeg)]) (rest := []) ⟨hx, hb, hml, hown, hts⟩ (mX6_trade l D dA ad σ _ v1 v1 v2 x48 (gI σ 14 0 v4.toNatClampNeg) q53 hcq53) (cwV 5 hts gX6_127 rfl rfl rfl (by decide +kernel) ⟨Nat.le_of_ble_eq_true rfl, Nat.le_of_ble_eq_true rfl⟩) (preV_of hR hK (f := 0) (i := 0) rfl rfl rfl _) rfl rfl hl.1 rfl (lv_room (Nat.le_of_ble_eq_true rfl)) dX6_closes_143 ⟨Nat.zero_le _, Nat.zero_le _⟩) hA hR hS (fun H locs hR hS => ?_)
                refine lv_aload_n hx hb dX6_closes_146 rfl (lv_at hl 4 rfl) ?_
                refine va_get (D := D) (ci := 7) (C := RX6) (T := TX6) (N := 22) hx hb hts iuX6 hown hK.1 (WW_one hR (f := 0) (i := 0) rfl) 0 rfl rfl 16 (by decide) (hts _ q_824) (fun _ h9 => h9) rfl dX6_closes_147 ?_
                refine lv_iload hx hb dX6_closes_150 (lv_at hl 2 rfl) ?_
                refine lv_dup2_11 hx hb dX6_closes_152 rfl rfl ?_
                refine va_iald hx hb hK.1 (WW_one hR (f := 15) (i := 0) rfl) 0 0 rfl rfl g35 dX6_closes_153 ?_
                refine lv_iload hx hb dX6_closes_154 (lv_at hl 0 rfl) ?_
                refine lv_isub hx hb dX6_closes_156 ?_
                refine ww_iast hx hb hK.1 hR hS 0 (f := 15) (j := 0) rfl rfl rfl g35 dX6_closes_157 (fun H locs hR hS => ?_)
                have hR := HM_row15 0 (v4.toNatClampNeg) ((gI q53 15 0 v4.toNatClampNeg) - x48) hR
                refine lv_aload_n hx hb dX6_closes_158 rfl (lv_at hl 4 rfl) ?_
                refine lv_iload_n hx hb dX6_closes_159 rfl (lv_at hl 6 rfl) ?_
                refine lv_iload_n hx hb dX6_closes_160 rfl (lv_at hl 3 rfl) ?_
                obtain ⟨q54, hcq54, hf⟩ := bd_of hf
                refine kc_i (va_runV (As := [.int v2, .int v3]) (rest := []) ⟨hx, hb, hml, hown, hts⟩ (mX6_bestOf l D dA ad (pI q53 15 0 v4.toNatClampNeg ((gI q53 15 0 v4.toNatClampNeg) - x48)) _ v2 v3 q54 hcq54) (cwV 2 hts gX6_123 rfl rfl rfl (by decide +kernel) ⟨Nat.le_of_ble_eq_true rfl, Nat.le_of_ble_eq_true rfl⟩) (preV_of hR hK (f := 0) (i := 0) rfl rfl rfl _) rfl rfl hl.1 rfl (lv_room (Nat.le_of_ble_eq_true rfl)) dX6_closes_161 ⟨Nat.zero_le _, Nat.zero_le _⟩) hA hR hS (fun H locs hR hS => ?_)
                refine lv_istore (lv' := [(4, .int q54), (6, .int x48), (5, .int x34), (3, .int v3), (0, .ref (ad 0 0)), (1, .int v1), (2, .int v2)]) hx hb dX6_closes_164 hl (by decide) rfl (fun ls hl => ?_)
                refine lv_goto (tgt := 27) hx hb dX6_closes_166 (by decide) ?_
                exact ih _ _ _ (pI q53 15 0 v4.toNatClampNeg ((gI q53 15 0 v4.toNatClampNeg) - x48)) q54 v3 v1 v2 hR hS (lv_sub hl [0, 3, 4, 5, 6] rfl) hf
            · have hf := if_of_neg hf c49
              refine lv_aload_n hx hb dX6_closes_107 rfl (lv_at hl 4 rfl) ?_
              refine va_get (D := D) (ci := 7) (C := RX6) (T := TX6) (N := 22) hx hb hts iuX6 hown hK.1 (WW_one hR (f := 0) (i := 0) rfl) 0 rfl rfl 12 (by decide) (hts _ q_820) (fun _ h9 => h9) rfl dX6_closes_108 ?_
              refine lv_iload hx hb dX6_closes_111 (lv_at hl 2 rfl) ?_
              refine va_iald hx hb hK.1 (WW_one hR (f := 11) (i := 0) rfl) 0 0 rfl rfl g35 dX6_closes_113 ?_
              refine lv_goto (tgt := 118) hx hb dX6_closes_114 (by decide) ?_
              refine lv_iload_n hx hb dX6_closes_118 rfl (lv_at hl 3 rfl) ?_
              refine lv_if_eq (tgt := 126) hx hb dX6_closes_119 (by decide) (fun c55 => ?_) (fun c55 => ?_)
              · have hf := if_of_pos hf c55
                refine lv_aload_n hx hb dX6_closes_126 rfl (lv_at hl 4 rfl) ?_
                refine va_get (D := D) (ci := 7) (C := RX6) (T := TX6) (N := 22) hx hb hts iuX6 hown hK.1 (WW_one hR (f := 0) (i := 0) rfl) 0 rfl rfl 12 (by decide) (hts _ q_820) (fun _ h9 => h9) rfl dX6_closes_127 ?_
                refine lv_iload hx hb dX6_closes_130 (lv_at hl 2 rfl) ?_
                refine va_iald hx hb hK.1 (WW_one hR (f := 11) (i := 0) rfl) 0 0 rfl rfl g35 dX6_closes_132 ?_
                refine lv_iload_n hx hb dX6_closes_133 rfl (lv_at hl 6 rfl) ?_
                refine lv_iload hx hb dX6_closes_134 (lv_at hl 0 rfl) ?_
                refine lv_aload_n hx hb dX6_closes_136 rfl (lv_at hl 4 rfl) ?_
                refine va_get (D := D) (ci := 7) (C := RX6) (T := TX6) (N := 22) hx hb hts iuX6 hown hK.1 (WW_one hR (f := 0) (i := 0) rfl) 0 rfl rfl 15 (by decide) (hts _ q_823) (fun _ h9 => h9) rfl dX6_closes_137 ?_
                refine lv_iload hx hb dX6_closes_140 (lv_at hl 2 rfl) ?_
                refine va_iald hx hb hK.1 (WW_one hR (f := 14) (i := 0) rfl) 0 0 rfl rfl g35 dX6_closes_142 ?_
                obtain ⟨q56, hcq56, hf⟩ := bd_of hf
                refine kc_v (va_runV (As := [.int (gI σ 11 0 v4.toNatClampNeg), .int (gI σ 11 0 v4.toNatClampNeg), .int v2, .int x48, .int (gI σ 14 0 v4.toNatClampNeg)]) (rest := []) ⟨hx, hb, hml, hown, hts⟩ (mX6_trade l D dA ad σ _ (gI σ 11 0 v4.toNatClampNeg) (gI σ 11 0 v4.toNatClampNeg) v2 x48 (gI σ 14 0 v4.toNatClampNeg) q56 hcq56) (cwV 5 hts gX6_127 rfl rfl rfl (by decide +kernel) ⟨Nat.le_of_ble_eq_true rfl, Nat.le_of_ble_eq_true rfl⟩) (preV_of hR hK (f := 0) (i := 0) rfl rfl rfl _) rfl rfl hl.1 rfl (lv_room (Nat.le_of_ble_eq_true rfl)) dX6_closes_143 ⟨Nat.zero_le _, Nat.zero_le _⟩) hA hR hS (fun H locs hR hS => ?_)
                refine lv_aload_n hx hb dX6_closes_146 rfl (lv_at hl 4 rfl) ?_
                refine va_get (D := D) (ci := 7) (C := RX6) (T := TX6) (N := 22) hx hb hts iuX6 hown hK.1 (WW_one hR (f := 0) (i := 0) rfl) 0 rfl rfl 16 (by decide) (hts _ q_824) (fun _ h9 => h9) rfl dX6_closes_147 ?_
                refine lv_iload hx hb dX6_closes_150 (lv_at hl 2 rfl) ?_
                refine lv_dup2_11 hx hb dX6_closes_152 rfl rfl ?_
                refine va_iald hx hb hK.1 (WW_one hR (f := 15) (i := 0) rfl) 0 0 rfl rfl g35 dX6_closes_153 ?_
                refine lv_iload hx hb dX6_closes_154 (lv_at hl 0 rfl) ?_
                refine lv_isub hx hb dX6_closes_156 ?_
                refine ww_iast hx hb hK.1 hR hS 0 (f := 15) (j := 0) rfl rfl rfl g35 dX6_closes_157 (fun H locs hR hS => ?_)
                have hR := HM_row15 0 (v4.toNatClampNeg) ((gI q56 15 0 v4.toNatClampNeg) - x48) hR
                refine lv_aload_n hx hb dX6_closes_158 rfl (lv_at hl 4 rfl) ?_
                refine lv_iload_n hx hb dX6_closes_159 rfl (lv_at hl 6 rfl) ?_
                refine lv_iload_n hx hb dX6_closes_160 rfl (lv_at hl 3 rfl) ?_
                obtain ⟨q57, hcq57, hf⟩ := bd_of hf
                refine kc_i (va_runV (As := [.int v2, .int v3]) (rest := []) ⟨hx, hb, hml, hown, hts⟩ (mX6_bestOf l D dA ad (pI q56 15 0 v4.toNatClampNeg ((gI q56 15 0 v4.toNatClampNeg) - x48)) _ v2 v3 q57 hcq57) (cwV 2 hts gX6_123 rfl rfl rfl (by decide +kernel) ⟨Nat.le_of_ble_eq_true rfl, Nat.le_of_ble_eq_true rfl⟩) (preV_of hR hK (f := 0) (i := 0) rfl rfl rfl _) rfl rfl hl.1 rfl (lv_room (Nat.le_of_ble_eq_true rfl)) dX6_closes_161 ⟨Nat.zero_le _, Nat.zero_le _⟩) hA hR hS (fun H locs hR hS => ?_)
                refine lv_istore (lv' := [(4, .int q57), (6, .int x48), (5, .int x34), (3, .int v3), (0, .ref (ad 0 0)), (1, .int v1), (2, .int v2)]) hx hb dX6_closes_164 hl (by decide) rfl (fun ls hl => ?_)
                refine lv_goto (tgt := 27) hx hb dX6_closes_166 (by decide) ?_
                exact ih _ _ _ (pI q56 15 0 v4.toNatClampNeg ((gI q56 15 0 v4.toNatClampNeg) - x48)) q57 v3 v1 v2 hR hS (lv_sub hl [0, 3, 4, 5, 6] rfl) hf
              · have hf := if_of_neg hf c55
                refine lv_iload_n hx hb dX6_closes_122 rfl (lv_at hl 5 rfl) ?_
                refine lv_goto (tgt := 133) hx hb dX6_closes_123 (by decide) ?_
                refine lv_iload_n hx hb dX6_closes_133 rfl (lv_at hl 6 rfl) ?_
                refine lv_iload hx hb dX6_closes_134 (lv_at hl 0 rfl) ?_
                refine lv_aload_n hx hb dX6_closes_136 rfl (lv_at hl 4 rfl) ?_
                refine va_get (D := D) (ci := 7) (C := RX6) (T := TX6) (N := 22) hx hb hts iuX6 hown hK.1 (WW_one hR (f := 0) (i := 0) rfl) 0 rfl rfl 15 (by decide) (hts _ q_823) (fun _ h9 => h9) rfl dX6_closes_137 ?_
                refine lv_iload hx hb dX6_closes_140 (lv_at hl 2 rfl) ?_
                refine va_iald hx hb hK.1 (WW_one hR (f := 14) (i := 0) rfl) 0 0 rfl rfl g35 dX6_closes_142 ?_
                obtain ⟨q58, hcq58, hf⟩ := bd_of hf
                refine kc_v (va_runV (As := [.int (gI σ 11 0 v4.toNatClampNeg), .int v1, .int v2, .int x48, .int (gI σ 14 0 v4.toNatClampNeg)]) (rest := []) ⟨hx, hb, hml, hown, hts⟩ (mX6_trade l D dA ad σ _ (gI σ 11 0 v4.toNatClampNeg) v1 v2 x48 (gI σ 14 0 v4.toNatClampNeg) q58 hcq58) (cwV 5 hts gX6_127 rfl rfl rfl (by decide +kernel) ⟨Nat.le_of_ble_eq_true rfl, Nat.le_of_ble_eq_true rfl⟩) (preV_of hR hK (f := 0) (i := 0) rfl rfl rfl _) rfl rfl hl.1 rfl (lv_room (Nat.le_of_ble_eq_true rfl)) dX6_closes_143 ⟨Nat.zero_le _, Nat.zero_le _⟩) hA hR hS (fun H locs hR hS => ?_)
                refine lv_aload_n hx hb dX6_closes_146 rfl (lv_at hl 4 rfl) ?_
                refine va_get (D := D) (ci := 7) (C := RX6) (T := TX6) (N := 22) hx hb hts iuX6 hown hK.1 (WW_one hR (f := 0) (i := 0) rfl) 0 rfl rfl 16 (by decide) (hts _ q_824) (fun _ h9 => h9) rfl dX6_closes_147 ?_
                refine lv_iload hx hb dX6_closes_150 (lv_at hl 2 rfl) ?_
                refine lv_dup2_11 hx hb dX6_closes_152 rfl rfl ?_
                refine va_iald hx hb hK.1 (WW_one hR (f := 15) (i := 0) rfl) 0 0 rfl rfl g35 dX6_closes_153 ?_
                refine lv_iload hx hb dX6_closes_154 (lv_at hl 0 rfl) ?_
                refine lv_isub hx hb dX6_closes_156 ?_
                refine ww_iast hx hb hK.1 hR hS 0 (f := 15) (j := 0) rfl rfl rfl g35 dX6_closes_157 (fun H locs hR hS => ?_)
                have hR := HM_row15 0 (v4.toNatClampNeg) ((gI q58 15 0 v4.toNatClampNeg) - x48) hR
                refine lv_aload_n hx hb dX6_closes_158 rfl (lv_at hl 4 rfl) ?_
                refine lv_iload_n hx hb dX6_closes_159 rfl (lv_at hl 6 rfl) ?_
                refine lv_iload_n hx hb dX6_closes_160 rfl (lv_at hl 3 rfl) ?_
                obtain ⟨q59, hcq59, hf⟩ := bd_of hf
                refine kc_i (va_runV (As := [.int v2, .int v3]) (rest := []) ⟨hx, hb, hml, hown, hts⟩ (mX6_bestOf l D dA ad (pI q58 15 0 v4.toNatClampNeg ((gI q58 15 0 v4.toNatClampNeg) - x48)) _ v2 v3 q59 hcq59) (cwV 2 hts gX6_123 rfl rfl rfl (by decide +kernel) ⟨Nat.le_of_ble_eq_true rfl, Nat.le_of_ble_eq_true rfl⟩) (preV_of hR hK (f := 0) (i := 0) rfl rfl rfl _) rfl rfl hl.1 rfl (lv_room (Nat.le_of_ble_eq_true rfl)) dX6_closes_161 ⟨Nat.zero_le _, Nat.zero_le _⟩) hA hR hS (fun H locs hR hS => ?_)
                refine lv_istore (lv' := [(4, .int q59), (6, .int x48), (5, .int x34), (3, .int v3), (0, .ref (ad 0 0)), (1, .int v1), (2, .int v2)]) hx hb dX6_closes_164 hl (by decide) rfl (fun ls hl => ?_)
                refine lv_goto (tgt := 27) hx hb dX6_closes_166 (by decide) ?_
                exact ih _ _ _ (pI q58 15 0 v4.toNatClampNeg ((gI q58 15 0 v4.toNatClampNeg) - x48)) q59 v3 v1 v2 hR hS (lv_sub hl [0, 3, 4, 5, 6] rfl) hf
def fX6_closes (σ : St) (a1 : Int32) (a2 : Int32) : Option (St) := gd (vin ((3 * a1) + a2) 15) (if (gI σ 4 0 ((3 * a1) + a2).toNatClampNeg) ≤ 0 then bd (fX6_bestOf σ a2 0) (fun q3 => fX6_closes_L27 1000 σ q3 0 a1 a2) else bd (fX6_bestOf σ a2 1) (fun q60 => fX6_closes_L27 1000 σ q60 1 a1 a2))
set_option maxHeartbeats 4000000 in
set_option maxRecDepth 100000 in
theorem mX6_closes (l : Launch) (D : va_G) (dA : Nat → ClassId) (ad : Nat → Nat → Nat) (σ : St) (sz : Nat) (a1 : Int32) (a2 : Int32) (σ' : St) (hf : fX6_closes σ a1 a2 = some σ') : Met l yX6_closes (WSy yX6_closes cX6_closes 7 none) ({ frames := 1, cells := 0, slots := 0, locals := 25 } : Room) (va_Pc [.ref (ad 0 0), .int a1, .int a2] (fun U => U.heap.size = sz ∧ HM D dA (fun _ => True) ad σ U.heap ∧ KS D dA U)) (va_Qv (fun (_ : Unit) => True) (fun _ t => HM D dA (WA ad (cvM σ) sz) ad σ' t.heap) (WA ad (cvM σ) sz)) 0 0 (WA ad (cvM σ) sz) := by
  refine met_of (by decide) (Nat.le_of_ble_eq_true rfl) ?_
  intro p e s m below meth c ls hC hB hl
  obtain ⟨rfl, hR, hK⟩ := hB
  have hA : ∀ q : Nat, s.heap.size ≤ q → WA ad (cvM σ) s.heap.size q := fun q h => Or.inr h
  have hR := WW_fit (B := WA ad (cvM σ) s.heap.size) hR (fun f i h => WA_in h)
  have hS : va_S (WA ad (cvM σ) s.heap.size) s.heap s.heap [] := va_S.rf
  generalize WA ad (cvM σ) s.heap.size = A0 at hA hR hS ⊢
  have hC : CTX p s m _ meth c cX6_closes 7 RX6 none := hC
  obtain ⟨hx, hb, hml, hown, hts, hr, hlk⟩ := id hC
  have hl : lv_has ls 7 [(0, .ref (ad 0 0)), (1, .int a1), (2, .int a2)] := hl
  unfold fX6_closes at hf
  refine lv_aload_n hx hb dX6_closes_0 rfl (lv_at hl 0 rfl) ?_
  refine va_get (D := D) (ci := 7) (C := RX6) (T := TX6) (N := 22) hx hb hts iuX6 hown hK.1 (WW_one hR (f := 0) (i := 0) rfl) 0 rfl rfl 3 (by decide) (hts _ q_811) (fun _ h9 => h9) rfl dX6_closes_1 ?_
  refine lv_iconst (v := 3) hx hb dX6_closes_4 (by decide) ?_
  refine lv_iload_n hx hb dX6_closes_5 rfl (lv_at hl 1 rfl) ?_
  refine lv_imul hx hb dX6_closes_6 ?_
  refine lv_iload_n hx hb dX6_closes_7 rfl (lv_at hl 2 rfl) ?_
  refine lv_iadd hx hb dX6_closes_8 ?_
  obtain ⟨g1, hf⟩ := gd_of hf
  refine va_iald hx hb hK.1 (WW_one hR (f := 4) (i := 0) rfl) 0 0 rfl rfl g1 dX6_closes_9 ?_
  refine lv_if_le (tgt := 17) hx hb dX6_closes_10 (by decide) (fun c2 => ?_) (fun c2 => ?_)
  · have hf := if_of_pos hf c2
    refine lv_iconst (v := 0) hx hb dX6_closes_17 (by decide) ?_
    refine lv_istore_n (lv' := [(3, .int 0), (0, .ref (ad 0 0)), (1, .int a1), (2, .int a2)]) hx hb dX6_closes_18 rfl hl (by decide) rfl (fun ls hl => ?_)
    refine lv_aload_n hx hb dX6_closes_19 rfl (lv_at hl 1 rfl) ?_
    refine lv_iload_n hx hb dX6_closes_20 rfl (lv_at hl 3 rfl) ?_
    refine lv_iload_n hx hb dX6_closes_21 rfl (lv_at hl 0 rfl) ?_
    obtain ⟨q3, hcq3, hf⟩ := bd_of hf
    refine kc_i (va_runV (As := [.int a2, .int 0]) (rest := []) ⟨hx, hb, hml, hown, hts⟩ (mX6_bestOf l D dA ad σ _ a2 0 q3 hcq3) (cwV 2 hts gX6_123 rfl rfl rfl (by decide +kernel) ⟨Nat.le_of_ble_eq_true rfl, Nat.le_of_ble_eq_true rfl⟩) (preV_of hR hK (f := 0) (i := 0) rfl rfl rfl _) rfl rfl hl.1 rfl (lv_room (Nat.le_of_ble_eq_true rfl)) dX6_closes_22 ⟨Nat.zero_le _, Nat.zero_le _⟩) hA hR hS (fun H locs hR hS => ?_)
    refine lv_istore (lv' := [(4, .int q3), (3, .int 0), (0, .ref (ad 0 0)), (1, .int a1), (2, .int a2)]) hx hb dX6_closes_25 hl (by decide) rfl (fun ls hl => ?_)
    exact wX6_closes_L27 hC hK hA 1000 _ _ _ σ q3 0 a1 a2 hR hS (lv_sub hl [0, 1, 2, 3, 4] rfl) hf
  · have hf := if_of_neg hf c2
    refine lv_iconst (v := 1) hx hb dX6_closes_13 (by decide) ?_
    refine lv_goto (tgt := 18) hx hb dX6_closes_14 (by decide) ?_
    refine lv_istore_n (lv' := [(3, .int 1), (0, .ref (ad 0 0)), (1, .int a1), (2, .int a2)]) hx hb dX6_closes_18 rfl hl (by decide) rfl (fun ls hl => ?_)
    refine lv_aload_n hx hb dX6_closes_19 rfl (lv_at hl 1 rfl) ?_
    refine lv_iload_n hx hb dX6_closes_20 rfl (lv_at hl 3 rfl) ?_
    refine lv_iload_n hx hb dX6_closes_21 rfl (lv_at hl 0 rfl) ?_
    obtain ⟨q60, hcq60, hf⟩ := bd_of hf
    refine kc_i (va_runV (As := [.int a2, .int 1]) (rest := []) ⟨hx, hb, hml, hown, hts⟩ (mX6_bestOf l D dA ad σ _ a2 1 q60 hcq60) (cwV 2 hts gX6_123 rfl rfl rfl (by decide +kernel) ⟨Nat.le_of_ble_eq_true rfl, Nat.le_of_ble_eq_true rfl⟩) (preV_of hR hK (f := 0) (i := 0) rfl rfl rfl _) rfl rfl hl.1 rfl (lv_room (Nat.le_of_ble_eq_true rfl)) dX6_closes_22 ⟨Nat.zero_le _, Nat.zero_le _⟩) hA hR hS (fun H locs hR hS => ?_)
    refine lv_istore (lv' := [(4, .int q60), (3, .int 1), (0, .ref (ad 0 0)), (1, .int a1), (2, .int a2)]) hx hb dX6_closes_25 hl (by decide) rfl (fun ls hl => ?_)
    exact wX6_closes_L27 hC hK hA 1000 _ _ _ σ q60 1 a1 a2 hR hS (lv_sub hl [0, 1, 2, 3, 4] rfl) hf
def fX6_closesOut_L44 {β : Type} (k : St → Int32 → Int32 → Option β) : Nat → St → Int32 → Int32 → Option (β)
  | 0, _, _, _ => none
  | n + 1, σ, v2, v1 => if 3 ≤ v2 then k σ v2 v1 else gd (vin ((3 * v1) + v2) 15) (if (gI σ 4 0 ((3 * v1) + v2).toNatClampNeg) = 0 then gd (vin v2 3) (bd (fX6_riskOf (pI σ 18 0 v2.toNatClampNeg 0) v1 v2) (fun q6 => kst (v2 + 1) (fun x7 => fX6_closesOut_L44 k n (pI (pI σ 18 0 v2.toNatClampNeg 0) 17 0 v2.toNatClampNeg q6) x7 v1))) else gd (vin v2 3) (bd (fX6_riskOf (pI σ 18 0 v2.toNatClampNeg 1) v1 v2) (fun q9 => kst (v2 + 1) (fun x10 => fX6_closesOut_L44 k n (pI (pI σ 18 0 v2.toNatClampNeg 1) 17 0 v2.toNatClampNeg q9) x10 v1))))
set_option maxHeartbeats 4000000 in
set_option maxRecDepth 100000 in
theorem wX6_closesOut_L44 {p : Program} {l : Launch} {e : Env} {s : State} {m : MethodId} {args : Array Value} {below : List Frame} {meth : Method} {c : Code} {D : va_G} {dA : Nat → ClassId} {A0 : Nat → Prop} {ad : Nat → Nat → Nat} {β : Type} {o : β} {Q : State → Prop} {k : St → Int32 → Int32 → Option β} (hC : CTX p s m args meth c cX6_closesOut 3 RX6 (some .boolean)) (hK : KS D dA s) (hA : ∀ q, s.heap.size ≤ q → A0 q) (hk : ∀ (H : Heap) (locs : List Loc) (ls : Array Slot) (σ : St) (v2 : Int32) (v1 : Int32), HM D dA A0 ad σ H → va_S A0 s.heap H locs → lv_has ls 3 [(2, .int v2), (0, .ref (ad 0 0)), (1, .int v1)] → k σ v2 v1 = some o → W p l e ({ frames := 3, cells := 0, slots := 0, locals := 74 } : Room) s m args below meth c H locs 0 0 Q (F0 m 91 ls [])) : ∀ (n : Nat) (H : Heap) (locs : List Loc) (ls : Array Slot) (σ : St) (v2 : Int32) (v1 : Int32), HM D dA A0 ad σ H → va_S A0 s.heap H locs → lv_has ls 3 [(2, .int v2), (0, .ref (ad 0 0)), (1, .int v1)] → fX6_closesOut_L44 k n σ v2 v1 = some o → W p l e ({ frames := 3, cells := 0, slots := 0, locals := 74 } : Room) s m args below meth c H locs 0 0 Q (F0 m 44 ls []) := by
  obtain ⟨hx, hb, hml, hown, hts, hr, hlk⟩ := id hC
  intro n
  induction n with
  | zero =>
    intro H locs ls σ v2 v1 hR hS hl hf
    rw [fX6_closesOut_L44.eq_1] at hf
    cases hf
  | succ n ih =>
    intro H locs ls σ v2 v1 hR hS hl hf
    rw [fX6_closesOut_L44.eq_2] at hf
    refine lv_iload_n hx hb dX6_closesOut_44 rfl (lv_at hl 0 rfl) ?_
    refine lv_iconst (v := 3) hx hb dX6_closesOut_45 (by decide) ?_
    refine lv_icmp_ge (tgt := 91) hx hb dX6_closesOut_46 (by decide) (fun c2 => ?_) (fun c2 => ?_)
    · have hf := if_of_pos hf c2
      exact hk _ _ _ σ v2 v1 hR hS (lv_sub hl [0, 1, 2] rfl) hf
    · have hf := if_of_neg hf c2
      refine lv_aload_n hx hb dX6_closesOut_49 rfl (lv_at hl 1 rfl) ?_
      refine va_get (D := D) (ci := 7) (C := RX6) (T := TX6) (N := 22) hx hb hts iuX6 hown hK.1 (WW_one hR (f := 0) (i := 0) rfl) 0 rfl rfl 20 (by decide) (hts _ q_828) (fun _ h9 => h9) rfl dX6_closesOut_50 ?_
      refine lv_iload_n hx hb dX6_closesOut_53 rfl (lv_at hl 0 rfl) ?_
      refine lv_aload_n hx hb dX6_closesOut_54 rfl (lv_at hl 1 rfl) ?_
      refine va_get (D := D) (ci := 7) (C := RX6) (T := TX6) (N := 22) hx hb hts iuX6 hown hK.1 (WW_one hR (f := 0) (i := 0) rfl) 0 rfl rfl 3 (by decide) (hts _ q_811) (fun _ h9 => h9) rfl dX6_closesOut_55 ?_
      refine lv_iconst (v := 3) hx hb dX6_closesOut_58 (by decide) ?_
      refine lv_iload_n hx hb dX6_closesOut_59 rfl (lv_at hl 2 rfl) ?_
      refine lv_imul hx hb dX6_closesOut_60 ?_
      refine lv_iload_n hx hb dX6_closesOut_61 rfl (lv_at hl 0 rfl) ?_
      refine lv_iadd hx hb dX6_closesOut_62 ?_
      obtain ⟨g3, hf⟩ := gd_of hf
      refine va_iald hx hb hK.1 (WW_one hR (f := 4) (i := 0) rfl) 0 0 rfl rfl g3 dX6_closesOut_63 ?_
      refine lv_if_eq (tgt := 71) hx hb dX6_closesOut_64 (by decide) (fun c4 => ?_) (fun c4 => ?_)
      · have hf := if_of_pos hf c4
        refine lv_iconst (v := 0) hx hb dX6_closesOut_71 (by decide) ?_
        obtain ⟨g5, hf⟩ := gd_of hf
        refine ww_zast hx hb hK.1 hR hS 2 (f := 18) (j := 0) rfl rfl rfl (bz_vp (by decide : bz 0)) g5 dX6_closesOut_72 (fun H locs hR hS => ?_)
        have hR := HM_row18 0 (v2.toNatClampNeg) 0 hR
        refine lv_aload_n hx hb dX6_closesOut_73 rfl (lv_at hl 1 rfl) ?_
        refine va_get (D := D) (ci := 7) (C := RX6) (T := TX6) (N := 22) hx hb hts iuX6 hown hK.1 (WW_one hR (f := 0) (i := 0) rfl) 0 rfl rfl 19 (by decide) (hts _ q_827) (fun _ h9 => h9) rfl dX6_closesOut_74 ?_
        refine lv_iload_n hx hb dX6_closesOut_77 rfl (lv_at hl 0 rfl) ?_
        refine lv_aload_n hx hb dX6_closesOut_78 rfl (lv_at hl 1 rfl) ?_
        refine lv_iload_n hx hb dX6_closesOut_79 rfl (lv_at hl 2 rfl) ?_
        refine lv_iload_n hx hb dX6_closesOut_80 rfl (lv_at hl 0 rfl) ?_
        obtain ⟨q6, hcq6, hf⟩ := bd_of hf
        refine kc_i (va_runV (As := [.int v1, .int v2]) (rest := [.int v2, .ref (ad 17 0)]) ⟨hx, hb, hml, hown, hts⟩ (mX6_riskOf l D dA ad (pI σ 18 0 v2.toNatClampNeg 0) _ v1 v2 q6 hcq6) (cwV 2 hts gX6_138 rfl rfl rfl (by decide +kernel) ⟨Nat.le_of_ble_eq_true rfl, Nat.le_of_ble_eq_true rfl⟩) (preV_of hR hK (f := 0) (i := 0) rfl rfl rfl _) rfl rfl hl.1 rfl (lv_room (Nat.le_of_ble_eq_true rfl)) dX6_closesOut_81 ⟨Nat.zero_le _, Nat.zero_le _⟩) hA hR hS (fun H locs hR hS => ?_)
        refine ww_iast hx hb hK.1 hR hS 0 (f := 17) (j := 0) rfl rfl rfl g5 dX6_closesOut_84 (fun H locs hR hS => ?_)
        have hR := HM_row17 0 (v2.toNatClampNeg) q6 hR
        obtain ⟨x7, hx7⟩ : ∃ y : Int32, y = v2 + 1 := ⟨_, rfl⟩
        have hf := kst_eq hx7 hf
        refine lv_iinc (v := x7) (lv' := [(2, .int x7), (0, .ref (ad 0 0)), (1, .int v1)]) hx hb dX6_closesOut_85 hl (k := 0) rfl (by rw [hx7]; rfl) (by decide) rfl (fun ls hl => ?_)
        refine lv_goto (tgt := 44) hx hb dX6_closesOut_88 (by decide) ?_
        exact ih _ _ _ (pI (pI σ 18 0 v2.toNatClampNeg 0) 17 0 v2.toNatClampNeg q6) x7 v1 hR hS (lv_sub hl [0, 1, 2] rfl) hf
      · have hf := if_of_neg hf c4
        refine lv_iconst (v := 1) hx hb dX6_closesOut_67 (by decide) ?_
        refine lv_goto (tgt := 72) hx hb dX6_closesOut_68 (by decide) ?_
        obtain ⟨g8, hf⟩ := gd_of hf
        refine ww_zast hx hb hK.1 hR hS 2 (f := 18) (j := 0) rfl rfl rfl (bz_vp (by decide : bz 1)) g8 dX6_closesOut_72 (fun H locs hR hS => ?_)
        have hR := HM_row18 0 (v2.toNatClampNeg) 1 hR
        refine lv_aload_n hx hb dX6_closesOut_73 rfl (lv_at hl 1 rfl) ?_
        refine va_get (D := D) (ci := 7) (C := RX6) (T := TX6) (N := 22) hx hb hts iuX6 hown hK.1 (WW_one hR (f := 0) (i := 0) rfl) 0 rfl rfl 19 (by decide) (hts _ q_827) (fun _ h9 => h9) rfl dX6_closesOut_74 ?_
        refine lv_iload_n hx hb dX6_closesOut_77 rfl (lv_at hl 0 rfl) ?_
        refine lv_aload_n hx hb dX6_closesOut_78 rfl (lv_at hl 1 rfl) ?_
        refine lv_iload_n hx hb dX6_closesOut_79 rfl (lv_at hl 2 rfl) ?_
        refine lv_iload_n hx hb dX6_closesOut_80 rfl (lv_at hl 0 rfl) ?_
        obtain ⟨q9, hcq9, hf⟩ := bd_of hf
        refine kc_i (va_runV (As := [.int v1, .int v2]) (rest := [.int v2, .ref (ad 17 0)]) ⟨hx, hb, hml, hown, hts⟩ (mX6_riskOf l D dA ad (pI σ 18 0 v2.toNatClampNeg 1) _ v1 v2 q9 hcq9) (cwV 2 hts gX6_138 rfl rfl rfl (by decide +kernel) ⟨Nat.le_of_ble_eq_true rfl, Nat.le_of_ble_eq_true rfl⟩) (preV_of hR hK (f := 0) (i := 0) rfl rfl rfl _) rfl rfl hl.1 rfl (lv_room (Nat.le_of_ble_eq_true rfl)) dX6_closesOut_81 ⟨Nat.zero_le _, Nat.zero_le _⟩) hA hR hS (fun H locs hR hS => ?_)
        refine ww_iast hx hb hK.1 hR hS 0 (f := 17) (j := 0) rfl rfl rfl g8 dX6_closesOut_84 (fun H locs hR hS => ?_)
        have hR := HM_row17 0 (v2.toNatClampNeg) q9 hR
        obtain ⟨x10, hx10⟩ : ∃ y : Int32, y = v2 + 1 := ⟨_, rfl⟩
        have hf := kst_eq hx10 hf
        refine lv_iinc (v := x10) (lv' := [(2, .int x10), (0, .ref (ad 0 0)), (1, .int v1)]) hx hb dX6_closesOut_85 hl (k := 0) rfl (by rw [hx10]; rfl) (by decide) rfl (fun ls hl => ?_)
        refine lv_goto (tgt := 44) hx hb dX6_closesOut_88 (by decide) ?_
        exact ih _ _ _ (pI (pI σ 18 0 v2.toNatClampNeg 1) 17 0 v2.toNatClampNeg q9) x10 v1 hR hS (lv_sub hl [0, 1, 2] rfl) hf
def fX6_closesOut_L96 {β : Type} (k : St → Int32 → Int32 → Option β) : Nat → St → Int32 → Int32 → Option (β)
  | 0, _, _, _ => none
  | n + 1, σ, v2, v1 => if v2 = (-1) then k σ v2 v1 else bd (fX6_freeOf σ v1) (fun q16 => if 0 ≤ q16 then k σ v2 v1 else bd (fX6_closes σ v1 v2) (fun q18 => gd (vin v2 3) (bd (fX6_nextOpen (pI q18 18 0 v2.toNatClampNeg 0)) (fun q20 => fX6_closesOut_L96 k n (pI q18 18 0 v2.toNatClampNeg 0) q20 v1))))
set_option maxHeartbeats 4000000 in
set_option maxRecDepth 100000 in
theorem wX6_closesOut_L96 {p : Program} {l : Launch} {e : Env} {s : State} {m : MethodId} {args : Array Value} {below : List Frame} {meth : Method} {c : Code} {D : va_G} {dA : Nat → ClassId} {A0 : Nat → Prop} {ad : Nat → Nat → Nat} {β : Type} {o : β} {Q : State → Prop} {k : St → Int32 → Int32 → Option β} (hC : CTX p s m args meth c cX6_closesOut 3 RX6 (some .boolean)) (hK : KS D dA s) (hA : ∀ q, s.heap.size ≤ q → A0 q) (hk : ∀ (H : Heap) (locs : List Loc) (ls : Array Slot) (σ : St) (v2 : Int32) (v1 : Int32), HM D dA A0 ad σ H → va_S A0 s.heap H locs → lv_has ls 3 [(2, .int v2), (0, .ref (ad 0 0)), (1, .int v1)] → k σ v2 v1 = some o → W p l e ({ frames := 3, cells := 0, slots := 0, locals := 74 } : Room) s m args below meth c H locs 0 0 Q (F0 m 132 ls [])) : ∀ (n : Nat) (H : Heap) (locs : List Loc) (ls : Array Slot) (σ : St) (v2 : Int32) (v1 : Int32), HM D dA A0 ad σ H → va_S A0 s.heap H locs → lv_has ls 3 [(2, .int v2), (0, .ref (ad 0 0)), (1, .int v1)] → fX6_closesOut_L96 k n σ v2 v1 = some o → W p l e ({ frames := 3, cells := 0, slots := 0, locals := 74 } : Room) s m args below meth c H locs 0 0 Q (F0 m 96 ls []) := by
  obtain ⟨hx, hb, hml, hown, hts, hr, hlk⟩ := id hC
  intro n
  induction n with
  | zero =>
    intro H locs ls σ v2 v1 hR hS hl hf
    rw [fX6_closesOut_L96.eq_1] at hf
    cases hf
  | succ n ih =>
    intro H locs ls σ v2 v1 hR hS hl hf
    rw [fX6_closesOut_L96.eq_2] at hf
    refine lv_iload_n hx hb dX6_closesOut_96 rfl (lv_at hl 0 rfl) ?_
    refine lv_iconst (v := (-1)) hx hb dX6_closesOut_97 (by decide) ?_
    refine lv_icmp_eq (tgt := 132) hx hb dX6_closesOut_98 (by decide) (fun c15 => ?_) (fun c15 => ?_)
    · have hf := if_of_pos hf c15
      exact hk _ _ _ σ v2 v1 hR hS (lv_sub hl [0, 1, 2] rfl) hf
    · have hf := if_of_neg hf c15
      refine lv_aload_n hx hb dX6_closesOut_101 rfl (lv_at hl 1 rfl) ?_
      refine lv_iload_n hx hb dX6_closesOut_102 rfl (lv_at hl 2 rfl) ?_
      obtain ⟨q16, hcq16, hf⟩ := bd_of hf
      refine kc_l (va_runV (As := [.int v1]) (rest := []) ⟨hx, hb, hml, hown, hts⟩ (mX6_freeOf l D dA ad σ _ v1 q16 hcq16) (cwV 1 hts gX6_114 rfl rfl rfl (by decide +kernel) ⟨Nat.le_of_ble_eq_true rfl, Nat.le_of_ble_eq_true rfl⟩) (preV_of hR hK (f := 0) (i := 0) rfl rfl rfl _) rfl rfl hl.1 rfl (lv_room (Nat.le_of_ble_eq_true rfl)) dX6_closesOut_103 ⟨Nat.zero_le _, Nat.zero_le _⟩) hA hR hS (fun H locs hR hS => ?_)
      refine lv_lconst (v := 0) hx hb dX6_closesOut_106 (by decide) ?_
      refine W.lcmp hx hb dX6_closesOut_107 ?_
      refine lv_if_ge (tgt := 132) hx hb dX6_closesOut_108 (by decide) (fun c170 => ?_) (fun c170 => ?_)
      · have c17 : 0 ≤ q16 := (lg_cmp_ge _ _).mp c170
        have hf := if_of_pos hf c17
        exact hk _ _ _ σ v2 v1 hR hS (lv_sub hl [0, 1, 2] rfl) hf
      · have c17 : ¬ (0 ≤ q16) := fun q => c170 ((lg_cmp_ge _ _).mpr q)
        have hf := if_of_neg hf c17
        refine lv_aload_n hx hb dX6_closesOut_111 rfl (lv_at hl 1 rfl) ?_
        refine lv_iload_n hx hb dX6_closesOut_112 rfl (lv_at hl 2 rfl) ?_
        refine lv_iload_n hx hb dX6_closesOut_113 rfl (lv_at hl 0 rfl) ?_
        obtain ⟨q18, hcq18, hf⟩ := bd_of hf
        refine kc_v (va_runV (As := [.int v1, .int v2]) (rest := []) ⟨hx, hb, hml, hown, hts⟩ (mX6_closes l D dA ad σ _ v1 v2 q18 hcq18) (cwV 2 hts gX6_146 rfl rfl rfl (by decide +kernel) ⟨Nat.le_of_ble_eq_true rfl, Nat.le_of_ble_eq_true rfl⟩) (preV_of hR hK (f := 0) (i := 0) rfl rfl rfl _) rfl rfl hl.1 rfl (lv_room (Nat.le_of_ble_eq_true rfl)) dX6_closesOut_114 ⟨Nat.zero_le _, Nat.zero_le _⟩) hA hR hS (fun H locs hR hS => ?_)
        refine lv_aload_n hx hb dX6_closesOut_117 rfl (lv_at hl 1 rfl) ?_
        refine va_get (D := D) (ci := 7) (C := RX6) (T := TX6) (N := 22) hx hb hts iuX6 hown hK.1 (WW_one hR (f := 0) (i := 0) rfl) 0 rfl rfl 20 (by decide) (hts _ q_828) (fun _ h9 => h9) rfl dX6_closesOut_118 ?_
        refine lv_iload_n hx hb dX6_closesOut_121 rfl (lv_at hl 0 rfl) ?_
        refine lv_iconst (v := 0) hx hb dX6_closesOut_122 (by decide) ?_
        obtain ⟨g19, hf⟩ := gd_of hf
        refine ww_zast hx hb hK.1 hR hS 2 (f := 18) (j := 0) rfl rfl rfl (bz_vp (by decide : bz 0)) g19 dX6_closesOut_123 (fun H locs hR hS => ?_)
        have hR := HM_row18 0 (v2.toNatClampNeg) 0 hR
        refine lv_aload_n hx hb dX6_closesOut_124 rfl (lv_at hl 1 rfl) ?_
        obtain ⟨q20, hcq20, hf⟩ := bd_of hf
        refine kc_i (va_runV (As := []) (rest := []) ⟨hx, hb, hml, hown, hts⟩ (mX6_nextOpen l D dA ad (pI q18 18 0 v2.toNatClampNeg 0) _ q20 hcq20) (cwV 0 hts gX6_142 rfl rfl rfl (by decide +kernel) ⟨Nat.le_of_ble_eq_true rfl, Nat.le_of_ble_eq_true rfl⟩) (preV_of hR hK (f := 0) (i := 0) rfl rfl rfl _) rfl rfl hl.1 rfl (lv_room (Nat.le_of_ble_eq_true rfl)) dX6_closesOut_125 ⟨Nat.zero_le _, Nat.zero_le _⟩) hA hR hS (fun H locs hR hS => ?_)
        refine lv_istore_n (lv' := [(2, .int q20), (0, .ref (ad 0 0)), (1, .int v1)]) hx hb dX6_closesOut_128 rfl hl (by decide) rfl (fun ls hl => ?_)
        refine lv_goto (tgt := 96) hx hb dX6_closesOut_129 (by decide) ?_
        exact ih _ _ _ (pI q18 18 0 v2.toNatClampNeg 0) q20 v1 hR hS (lv_sub hl [0, 1, 2] rfl) hf
def fX6_closesOut_L2 : Nat → St → Int32 → Int32 → Option (Int32 × St)
  | 0, _, _, _ => none
  | n + 1, σ, v2, v1 => if (gI σ 21 0 0) ≤ v2 then fX6_closesOut_L44 (fun s11 y12 y13 => bd (fX6_nextOpen s11) (fun q14 => fX6_closesOut_L96 (fun s21 y22 y23 => gd (vin y23 5) (bd (fX6_freeOf (pI s21 9 0 y23.toNatClampNeg (-1)) y23) (fun q25 => if 0 ≤ q25 then some ((0, pI s21 9 0 y23.toNatClampNeg (-1))) else some ((1, pI s21 9 0 y23.toNatClampNeg (-1)))))) 1000 s11 q14 y13)) 1000 σ 0 v1 else gd (vin v2 100) (if ¬ (gI σ 11 0 v2.toNatClampNeg) = v1 then kst (v2 + 1) (fun x29 => fX6_closesOut_L2 n (pI σ 15 0 v2.toNatClampNeg (gI σ 15 0 v2.toNatClampNeg)) x29 v1) else kst (v2 + 1) (fun x30 => fX6_closesOut_L2 n (pI σ 15 0 v2.toNatClampNeg 0) x30 v1))
set_option maxHeartbeats 4000000 in
set_option maxRecDepth 100000 in
theorem wX6_closesOut_L2 {p : Program} {l : Launch} {e : Env} {s : State} {m : MethodId} {args : Array Value} {below : List Frame} {meth : Method} {c : Code} {D : va_G} {dA : Nat → ClassId} {A0 : Nat → Prop} {ad : Nat → Nat → Nat} {r : Int32} {σ' : St}  (hC : CTX p s m args meth c cX6_closesOut 3 RX6 (some .boolean)) (hK : KS D dA s) (hA : ∀ q, s.heap.size ≤ q → A0 q) : ∀ (n : Nat) (H : Heap) (locs : List Loc) (ls : Array Slot) (σ : St) (v2 : Int32) (v1 : Int32), HM D dA A0 ad σ H → va_S A0 s.heap H locs → lv_has ls 3 [(2, .int v2), (0, .ref (ad 0 0)), (1, .int v1)] → fX6_closesOut_L2 n σ v2 v1 = some (r, σ') → W p l e ({ frames := 3, cells := 0, slots := 0, locals := 74 } : Room) s m args below meth c H locs 0 0 (MQ below (va_Qi (fun (x : Int32) (_ : Unit) => x = r) (fun _ t => HM D dA A0 ad σ' t.heap) A0) args s 0 0 A0) (F0 m 2 ls []) := by
  obtain ⟨hx, hb, hml, hown, hts, hr, hlk⟩ := id hC
  intro n
  induction n with
  | zero =>
    intro H locs ls σ v2 v1 hR hS hl hf
    rw [fX6_closesOut_L2.eq_1] at hf
    cases hf
  | succ n ih =>
    intro H locs ls σ v2 v1 hR hS hl hf
    rw [fX6_closesOut_L2.eq_2] at hf
    refine lv_iload_n hx hb dX6_closesOut_2 rfl (lv_at hl 0 rfl) ?_
    refine lv_aload_n hx hb dX6_closesOut_3 rfl (lv_at hl 1 rfl) ?_
    refine va_get (D := D) (ci := 7) (C := RX6) (T := TX6) (N := 22) hx hb hts iuX6 hown hK.1 (WW_one hR (f := 0) (i := 0) rfl) 0 rfl rfl 11 (by decide) (hts _ q_819) (fun _ h9 => h9) rfl dX6_closesOut_4 ?_
    refine lv_icmp_ge (tgt := 42) hx hb dX6_closesOut_7 (by decide) (fun c1 => ?_) (fun c1 => ?_)
    · have hf := if_of_pos hf c1
      refine lv_iconst (v := 0) hx hb dX6_closesOut_42 (by decide) ?_
      refine lv_istore_n (lv' := [(2, .int 0), (0, .ref (ad 0 0)), (1, .int v1)]) hx hb dX6_closesOut_43 rfl hl (by decide) rfl (fun ls hl => ?_)
      refine wX6_closesOut_L44 hC hK hA (fun H locs ls s11 y12 y13 hR hS hl hf => ?_) 1000 _ _ _ σ 0 v1 hR hS (lv_sub hl [0, 1, 2] rfl) hf
      refine lv_aload_n hx hb dX6_closesOut_91 rfl (lv_at hl 1 rfl) ?_
      obtain ⟨q14, hcq14, hf⟩ := bd_of hf
      refine kc_i (va_runV (As := []) (rest := []) ⟨hx, hb, hml, hown, hts⟩ (mX6_nextOpen l D dA ad s11 _ q14 hcq14) (cwV 0 hts gX6_142 rfl rfl rfl (by decide +kernel) ⟨Nat.le_of_ble_eq_true rfl, Nat.le_of_ble_eq_true rfl⟩) (preV_of hR hK (f := 0) (i := 0) rfl rfl rfl _) rfl rfl hl.1 rfl (lv_room (Nat.le_of_ble_eq_true rfl)) dX6_closesOut_92 ⟨Nat.zero_le _, Nat.zero_le _⟩) hA hR hS (fun H locs hR hS => ?_)
      refine lv_istore_n (lv' := [(2, .int q14), (0, .ref (ad 0 0)), (1, .int y13)]) hx hb dX6_closesOut_95 rfl hl (by decide) rfl (fun ls hl => ?_)
      refine wX6_closesOut_L96 hC hK hA (fun H locs ls s21 y22 y23 hR hS hl hf => ?_) 1000 _ _ _ s11 q14 y13 hR hS (lv_sub hl [0, 1, 2] rfl) hf
      refine lv_aload_n hx hb dX6_closesOut_132 rfl (lv_at hl 1 rfl) ?_
      refine va_get (D := D) (ci := 7) (C := RX6) (T := TX6) (N := 22) hx hb hts iuX6 hown hK.1 (WW_one hR (f := 0) (i := 0) rfl) 0 rfl rfl 8 (by decide) (hts _ q_816) (fun _ h9 => h9) rfl dX6_closesOut_133 ?_
      refine lv_iload_n hx hb dX6_closesOut_136 rfl (lv_at hl 2 rfl) ?_
      refine lv_iconst (v := (-1)) hx hb dX6_closesOut_137 (by decide) ?_
      obtain ⟨g24, hf⟩ := gd_of hf
      refine ww_iast hx hb hK.1 hR hS 0 (f := 9) (j := 0) rfl rfl rfl g24 dX6_closesOut_138 (fun H locs hR hS => ?_)
      have hR := HM_row9 0 (y23.toNatClampNeg) (-1) hR
      refine lv_aload_n hx hb dX6_closesOut_139 rfl (lv_at hl 1 rfl) ?_
      refine lv_iload_n hx hb dX6_closesOut_140 rfl (lv_at hl 2 rfl) ?_
      obtain ⟨q25, hcq25, hf⟩ := bd_of hf
      refine kc_l (va_runV (As := [.int y23]) (rest := []) ⟨hx, hb, hml, hown, hts⟩ (mX6_freeOf l D dA ad (pI s21 9 0 y23.toNatClampNeg (-1)) _ y23 q25 hcq25) (cwV 1 hts gX6_114 rfl rfl rfl (by decide +kernel) ⟨Nat.le_of_ble_eq_true rfl, Nat.le_of_ble_eq_true rfl⟩) (preV_of hR hK (f := 0) (i := 0) rfl rfl rfl _) rfl rfl hl.1 rfl (lv_room (Nat.le_of_ble_eq_true rfl)) dX6_closesOut_141 ⟨Nat.zero_le _, Nat.zero_le _⟩) hA hR hS (fun H locs hR hS => ?_)
      refine lv_lconst (v := 0) hx hb dX6_closesOut_144 (by decide) ?_
      refine W.lcmp hx hb dX6_closesOut_145 ?_
      refine lv_if_ge (tgt := 153) hx hb dX6_closesOut_146 (by decide) (fun c260 => ?_) (fun c260 => ?_)
      · have c26 : 0 ≤ q25 := (lg_cmp_ge _ _).mp c260
        have hf := if_of_pos hf c26
        refine lv_iconst (v := 0) hx hb dX6_closesOut_153 (by decide) ?_
        cases hf
        exact ret_z hC hR hS (by decide) dX6_closesOut_154
      · have c26 : ¬ (0 ≤ q25) := fun q => c260 ((lg_cmp_ge _ _).mpr q)
        have hf := if_of_neg hf c26
        refine lv_iconst (v := 1) hx hb dX6_closesOut_149 (by decide) ?_
        refine lv_goto (tgt := 154) hx hb dX6_closesOut_150 (by decide) ?_
        cases hf
        exact ret_z hC hR hS (by decide) dX6_closesOut_154
    · have hf := if_of_neg hf c1
      refine lv_aload_n hx hb dX6_closesOut_10 rfl (lv_at hl 1 rfl) ?_
      refine va_get (D := D) (ci := 7) (C := RX6) (T := TX6) (N := 22) hx hb hts iuX6 hown hK.1 (WW_one hR (f := 0) (i := 0) rfl) 0 rfl rfl 16 (by decide) (hts _ q_824) (fun _ h9 => h9) rfl dX6_closesOut_11 ?_
      refine lv_iload_n hx hb dX6_closesOut_14 rfl (lv_at hl 0 rfl) ?_
      refine lv_aload_n hx hb dX6_closesOut_15 rfl (lv_at hl 1 rfl) ?_
      refine va_get (D := D) (ci := 7) (C := RX6) (T := TX6) (N := 22) hx hb hts iuX6 hown hK.1 (WW_one hR (f := 0) (i := 0) rfl) 0 rfl rfl 12 (by decide) (hts _ q_820) (fun _ h9 => h9) rfl dX6_closesOut_16 ?_
      refine lv_iload_n hx hb dX6_closesOut_19 rfl (lv_at hl 0 rfl) ?_
      obtain ⟨g27, hf⟩ := gd_of hf
      refine va_iald hx hb hK.1 (WW_one hR (f := 11) (i := 0) rfl) 0 0 rfl rfl g27 dX6_closesOut_20 ?_
      refine lv_iload_n hx hb dX6_closesOut_21 rfl (lv_at hl 2 rfl) ?_
      refine lv_icmp_ne (tgt := 29) hx hb dX6_closesOut_22 (by decide) (fun c28 => ?_) (fun c28 => ?_)
      · have hf := if_of_pos hf c28
        refine lv_aload_n hx hb dX6_closesOut_29 rfl (lv_at hl 1 rfl) ?_
        refine va_get (D := D) (ci := 7) (C := RX6) (T := TX6) (N := 22) hx hb hts iuX6 hown hK.1 (WW_one hR (f := 0) (i := 0) rfl) 0 rfl rfl 16 (by decide) (hts _ q_824) (fun _ h9 => h9) rfl dX6_closesOut_30 ?_
        refine lv_iload_n hx hb dX6_closesOut_33 rfl (lv_at hl 0 rfl) ?_
        refine va_iald hx hb hK.1 (WW_one hR (f := 15) (i := 0) rfl) 0 0 rfl rfl g27 dX6_closesOut_34 ?_
        refine ww_iast hx hb hK.1 hR hS 0 (f := 15) (j := 0) rfl rfl rfl g27 dX6_closesOut_35 (fun H locs hR hS => ?_)
        have hR := HM_row15 0 (v2.toNatClampNeg) (gI σ 15 0 v2.toNatClampNeg) hR
        obtain ⟨x29, hx29⟩ : ∃ y : Int32, y = v2 + 1 := ⟨_, rfl⟩
        have hf := kst_eq hx29 hf
        refine lv_iinc (v := x29) (lv' := [(2, .int x29), (0, .ref (ad 0 0)), (1, .int v1)]) hx hb dX6_closesOut_36 hl (k := 0) rfl (by rw [hx29]; rfl) (by decide) rfl (fun ls hl => ?_)
        refine lv_goto (tgt := 2) hx hb dX6_closesOut_39 (by decide) ?_
        exact ih _ _ _ (pI σ 15 0 v2.toNatClampNeg (gI σ 15 0 v2.toNatClampNeg)) x29 v1 hR hS (lv_sub hl [0, 1, 2] rfl) hf
      · have hf := if_of_neg hf (fun q => q c28)
        refine lv_iconst (v := 0) hx hb dX6_closesOut_25 (by decide) ?_
        refine lv_goto (tgt := 35) hx hb dX6_closesOut_26 (by decide) ?_
        refine ww_iast hx hb hK.1 hR hS 0 (f := 15) (j := 0) rfl rfl rfl g27 dX6_closesOut_35 (fun H locs hR hS => ?_)
        have hR := HM_row15 0 (v2.toNatClampNeg) 0 hR
        obtain ⟨x30, hx30⟩ : ∃ y : Int32, y = v2 + 1 := ⟨_, rfl⟩
        have hf := kst_eq hx30 hf
        refine lv_iinc (v := x30) (lv' := [(2, .int x30), (0, .ref (ad 0 0)), (1, .int v1)]) hx hb dX6_closesOut_36 hl (k := 0) rfl (by rw [hx30]; rfl) (by decide) rfl (fun ls hl => ?_)
        refine lv_goto (tgt := 2) hx hb dX6_closesOut_39 (by decide) ?_
        exact ih _ _ _ (pI σ 15 0 v2.toNatClampNeg 0) x30 v1 hR hS (lv_sub hl [0, 1, 2] rfl) hf
def fX6_closesOut (σ : St) (a1 : Int32) : Option (Int32 × St) := fX6_closesOut_L2 1000 σ 0 a1
set_option maxHeartbeats 4000000 in
set_option maxRecDepth 100000 in
theorem mX6_closesOut (l : Launch) (D : va_G) (dA : Nat → ClassId) (ad : Nat → Nat → Nat) (σ : St) (sz : Nat) (a1 : Int32) (r : Int32) (σ' : St) (hf : fX6_closesOut σ a1 = some (r, σ')) : Met l yX6_closesOut (WSy yX6_closesOut cX6_closesOut 3 (some .boolean)) ({ frames := 3, cells := 0, slots := 0, locals := 74 } : Room) (va_Pc [.ref (ad 0 0), .int a1] (fun U => U.heap.size = sz ∧ HM D dA (fun _ => True) ad σ U.heap ∧ KS D dA U)) (va_Qi (fun (x : Int32) (_ : Unit) => x = r) (fun _ t => HM D dA (WA ad (cvM σ) sz) ad σ' t.heap) (WA ad (cvM σ) sz)) 0 0 (WA ad (cvM σ) sz) := by
  refine met_of (by decide) (Nat.le_of_ble_eq_true rfl) ?_
  intro p e s m below meth c ls hC hB hl
  obtain ⟨rfl, hR, hK⟩ := hB
  have hA : ∀ q : Nat, s.heap.size ≤ q → WA ad (cvM σ) s.heap.size q := fun q h => Or.inr h
  have hR := WW_fit (B := WA ad (cvM σ) s.heap.size) hR (fun f i h => WA_in h)
  have hS : va_S (WA ad (cvM σ) s.heap.size) s.heap s.heap [] := va_S.rf
  generalize WA ad (cvM σ) s.heap.size = A0 at hA hR hS ⊢
  have hC : CTX p s m _ meth c cX6_closesOut 3 RX6 (some .boolean) := hC
  obtain ⟨hx, hb, hml, hown, hts, hr, hlk⟩ := id hC
  have hl : lv_has ls 3 [(0, .ref (ad 0 0)), (1, .int a1)] := hl
  unfold fX6_closesOut at hf
  refine lv_iconst (v := 0) hx hb dX6_closesOut_0 (by decide) ?_
  refine lv_istore_n (lv' := [(2, .int 0), (0, .ref (ad 0 0)), (1, .int a1)]) hx hb dX6_closesOut_1 rfl hl (by decide) rfl (fun ls hl => ?_)
  exact wX6_closesOut_L2 hC hK hA 1000 _ _ _ σ 0 a1 hR hS (lv_sub hl [0, 1, 2] rfl) hf
def fX6_nets_L5 : Nat → St → Int32 → Int64 → Int32 → Option (Int64 × St)
  | 0, _, _, _, _ => none
  | n + 1, σ, v4, v2, v1 => if 3 ≤ v4 then gd (vin v1 5) (some ((v2, pL σ 6 0 v1.toNatClampNeg ((gL σ 6 0 v1.toNatClampNeg) + v2)))) else bd (fX6_worth σ v1 v4) (fun q3 => gd (vin ((3 * v1) + v4) 15) (kst (v2 + (q3 - (gL σ 5 0 ((3 * v1) + v4).toNatClampNeg))) (fun x5 => bd (fX6_worth σ v1 v4) (fun q6 => kst (v4 + 1) (fun x7 => fX6_nets_L5 n (pL σ 5 0 ((3 * v1) + v4).toNatClampNeg q6) x7 x5 v1)))))
set_option maxHeartbeats 4000000 in
set_option maxRecDepth 100000 in
theorem wX6_nets_L5 {p : Program} {l : Launch} {e : Env} {s : State} {m : MethodId} {args : Array Value} {below : List Frame} {meth : Method} {c : Code} {D : va_G} {dA : Nat → ClassId} {A0 : Nat → Prop} {ad : Nat → Nat → Nat} {r : Int64} {σ' : St}  (hC : CTX p s m args meth c cX6_nets 5 RX6 (some .long)) (hK : KS D dA s) (hA : ∀ q, s.heap.size ≤ q → A0 q) : ∀ (n : Nat) (H : Heap) (locs : List Loc) (ls : Array Slot) (σ : St) (v4 : Int32) (v2 : Int64) (v1 : Int32), HM D dA A0 ad σ H → va_S A0 s.heap H locs → lv_has ls 5 [(4, .int v4), (2, .long v2), (0, .ref (ad 0 0)), (1, .int v1)] → fX6_nets_L5 n σ v4 v2 v1 = some (r, σ') → W p l e ({ frames := 1, cells := 0, slots := 0, locals := 22 } : Room) s m args below meth c H locs 0 0 (MQ below (va_Ql (fun (x : Int64) (_ : Unit) => x = r) (fun _ t => HM D dA A0 ad σ' t.heap) A0) args s 0 0 A0) (F0 m 5 ls []) := by
  obtain ⟨hx, hb, hml, hown, hts, hr, hlk⟩ := id hC
  intro n
  induction n with
  | zero =>
    intro H locs ls σ v4 v2 v1 hR hS hl hf
    rw [fX6_nets_L5.eq_1] at hf
    cases hf
  | succ n ih =>
    intro H locs ls σ v4 v2 v1 hR hS hl hf
    rw [fX6_nets_L5.eq_2] at hf
    refine lv_iload hx hb dX6_nets_5 (lv_at hl 0 rfl) ?_
    refine lv_iconst (v := 3) hx hb dX6_nets_7 (by decide) ?_
    refine lv_icmp_ge (tgt := 57) hx hb dX6_nets_8 (by decide) (fun c1 => ?_) (fun c1 => ?_)
    · have hf := if_of_pos hf c1
      refine lv_aload_n hx hb dX6_nets_57 rfl (lv_at hl 2 rfl) ?_
      refine va_get (D := D) (ci := 7) (C := RX6) (T := TX6) (N := 22) hx hb hts iuX6 hown hK.1 (WW_one hR (f := 0) (i := 0) rfl) 0 rfl rfl 5 (by decide) (hts _ q_813) (fun _ h9 => h9) rfl dX6_nets_58 ?_
      refine lv_iload_n hx hb dX6_nets_61 rfl (lv_at hl 3 rfl) ?_
      refine lv_dup2_11 hx hb dX6_nets_62 rfl rfl ?_
      obtain ⟨g2, hf⟩ := gd_of hf
      refine va_lald hx hb hK.1 (WW_one hR (f := 6) (i := 0) rfl) 0 1 rfl rfl g2 dX6_nets_63 ?_
      refine lv_lload_n hx hb dX6_nets_64 rfl (lv_at hl 1 rfl) ?_
      refine lv_ladd hx hb dX6_nets_65 ?_
      refine ww_last hx hb hK.1 hR hS 1 (f := 6) (j := 0) rfl rfl rfl g2 dX6_nets_66 (fun H locs hR hS => ?_)
      have hR := HM_row6 0 (v1.toNatClampNeg) ((gL σ 6 0 v1.toNatClampNeg) + v2) hR
      refine lv_lload_n hx hb dX6_nets_67 rfl (lv_at hl 1 rfl) ?_
      cases hf
      exact ret_l hC hR hS dX6_nets_68
    · have hf := if_of_neg hf c1
      refine lv_lload_n hx hb dX6_nets_11 rfl (lv_at hl 1 rfl) ?_
      refine lv_aload_n hx hb dX6_nets_12 rfl (lv_at hl 2 rfl) ?_
      refine lv_iload_n hx hb dX6_nets_13 rfl (lv_at hl 3 rfl) ?_
      refine lv_iload hx hb dX6_nets_14 (lv_at hl 0 rfl) ?_
      obtain ⟨q3, hcq3, hf⟩ := bd_of hf
      refine kc_l (va_runV (As := [.int v1, .int v4]) (rest := [.long v2]) ⟨hx, hb, hml, hown, hts⟩ (mX6_worth l D dA ad σ _ v1 v4 q3 hcq3) (cwV 2 hts gX6_86 rfl rfl rfl (by decide +kernel) ⟨Nat.le_of_ble_eq_true rfl, Nat.le_of_ble_eq_true rfl⟩) (preV_of hR hK (f := 0) (i := 0) rfl rfl rfl _) rfl rfl hl.1 rfl (lv_room (Nat.le_of_ble_eq_true rfl)) dX6_nets_16 ⟨Nat.zero_le _, Nat.zero_le _⟩) hA hR hS (fun H locs hR hS => ?_)
      refine lv_aload_n hx hb dX6_nets_19 rfl (lv_at hl 2 rfl) ?_
      refine va_get (D := D) (ci := 7) (C := RX6) (T := TX6) (N := 22) hx hb hts iuX6 hown hK.1 (WW_one hR (f := 0) (i := 0) rfl) 0 rfl rfl 4 (by decide) (hts _ q_812) (fun _ h9 => h9) rfl dX6_nets_20 ?_
      refine lv_iconst (v := 3) hx hb dX6_nets_23 (by decide) ?_
      refine lv_iload_n hx hb dX6_nets_24 rfl (lv_at hl 3 rfl) ?_
      refine lv_imul hx hb dX6_nets_25 ?_
      refine lv_iload hx hb dX6_nets_26 (lv_at hl 0 rfl) ?_
      refine lv_iadd hx hb dX6_nets_28 ?_
      obtain ⟨g4, hf⟩ := gd_of hf
      refine va_lald hx hb hK.1 (WW_one hR (f := 5) (i := 0) rfl) 0 1 rfl rfl g4 dX6_nets_29 ?_
      refine lv_lsub hx hb dX6_nets_30 ?_
      refine lv_ladd hx hb dX6_nets_31 ?_
      refine lv_topl (fun x5 hx5 => ?_)
      have hf := kst_eq hx5 hf
      refine lv_lstore_n (lv' := [(2, .long x5), (4, .int v4), (0, .ref (ad 0 0)), (1, .int v1)]) hx hb dX6_nets_32 rfl hl (by decide) rfl (fun ls hl => ?_)
      refine lv_aload_n hx hb dX6_nets_33 rfl (lv_at hl 2 rfl) ?_
      refine va_get (D := D) (ci := 7) (C := RX6) (T := TX6) (N := 22) hx hb hts iuX6 hown hK.1 (WW_one hR (f := 0) (i := 0) rfl) 0 rfl rfl 4 (by decide) (hts _ q_812) (fun _ h9 => h9) rfl dX6_nets_34 ?_
      refine lv_iconst (v := 3) hx hb dX6_nets_37 (by decide) ?_
      refine lv_iload_n hx hb dX6_nets_38 rfl (lv_at hl 3 rfl) ?_
      refine lv_imul hx hb dX6_nets_39 ?_
      refine lv_iload hx hb dX6_nets_40 (lv_at hl 1 rfl) ?_
      refine lv_iadd hx hb dX6_nets_42 ?_
      refine lv_aload_n hx hb dX6_nets_43 rfl (lv_at hl 2 rfl) ?_
      refine lv_iload_n hx hb dX6_nets_44 rfl (lv_at hl 3 rfl) ?_
      refine lv_iload hx hb dX6_nets_45 (lv_at hl 1 rfl) ?_
      obtain ⟨q6, hcq6, hf⟩ := bd_of hf
      refine kc_l (va_runV (As := [.int v1, .int v4]) (rest := [.int ((3 * v1) + v4), .ref (ad 5 0)]) ⟨hx, hb, hml, hown, hts⟩ (mX6_worth l D dA ad σ _ v1 v4 q6 hcq6) (cwV 2 hts gX6_86 rfl rfl rfl (by decide +kernel) ⟨Nat.le_of_ble_eq_true rfl, Nat.le_of_ble_eq_true rfl⟩) (preV_of hR hK (f := 0) (i := 0) rfl rfl rfl _) rfl rfl hl.1 rfl (lv_room (Nat.le_of_ble_eq_true rfl)) dX6_nets_47 ⟨Nat.zero_le _, Nat.zero_le _⟩) hA hR hS (fun H locs hR hS => ?_)
      refine ww_last hx hb hK.1 hR hS 1 (f := 5) (j := 0) rfl rfl rfl g4 dX6_nets_50 (fun H locs hR hS => ?_)
      have hR := HM_row5 0 (((3 * v1) + v4).toNatClampNeg) q6 hR
      obtain ⟨x7, hx7⟩ : ∃ y : Int32, y = v4 + 1 := ⟨_, rfl⟩
      have hf := kst_eq hx7 hf
      refine lv_iinc (v := x7) (lv' := [(4, .int x7), (2, .long x5), (0, .ref (ad 0 0)), (1, .int v1)]) hx hb dX6_nets_51 hl (k := 1) rfl (by rw [hx7]; rfl) (by decide) rfl (fun ls hl => ?_)
      refine lv_goto (tgt := 5) hx hb dX6_nets_54 (by decide) ?_
      exact ih _ _ _ (pL σ 5 0 ((3 * v1) + v4).toNatClampNeg q6) x7 x5 v1 hR hS (lv_sub hl [0, 1, 2, 3] rfl) hf
def fX6_nets (σ : St) (a1 : Int32) : Option (Int64 × St) := fX6_nets_L5 1000 σ 0 0 a1
set_option maxHeartbeats 4000000 in
set_option maxRecDepth 100000 in
theorem mX6_nets (l : Launch) (D : va_G) (dA : Nat → ClassId) (ad : Nat → Nat → Nat) (σ : St) (sz : Nat) (a1 : Int32) (r : Int64) (σ' : St) (hf : fX6_nets σ a1 = some (r, σ')) : Met l yX6_nets (WSy yX6_nets cX6_nets 5 (some .long)) ({ frames := 1, cells := 0, slots := 0, locals := 22 } : Room) (va_Pc [.ref (ad 0 0), .int a1] (fun U => U.heap.size = sz ∧ HM D dA (fun _ => True) ad σ U.heap ∧ KS D dA U)) (va_Ql (fun (x : Int64) (_ : Unit) => x = r) (fun _ t => HM D dA (WA ad (cvM σ) sz) ad σ' t.heap) (WA ad (cvM σ) sz)) 0 0 (WA ad (cvM σ) sz) := by
  refine met_of (by decide) (Nat.le_of_ble_eq_true rfl) ?_
  intro p e s m below meth c ls hC hB hl
  obtain ⟨rfl, hR, hK⟩ := hB
  have hA : ∀ q : Nat, s.heap.size ≤ q → WA ad (cvM σ) s.heap.size q := fun q h => Or.inr h
  have hR := WW_fit (B := WA ad (cvM σ) s.heap.size) hR (fun f i h => WA_in h)
  have hS : va_S (WA ad (cvM σ) s.heap.size) s.heap s.heap [] := va_S.rf
  generalize WA ad (cvM σ) s.heap.size = A0 at hA hR hS ⊢
  have hC : CTX p s m _ meth c cX6_nets 5 RX6 (some .long) := hC
  obtain ⟨hx, hb, hml, hown, hts, hr, hlk⟩ := id hC
  have hl : lv_has ls 5 [(0, .ref (ad 0 0)), (1, .int a1)] := hl
  unfold fX6_nets at hf
  refine lv_lconst (v := 0) hx hb dX6_nets_0 (by decide) ?_
  refine lv_lstore_n (lv' := [(2, .long 0), (0, .ref (ad 0 0)), (1, .int a1)]) hx hb dX6_nets_1 rfl hl (by decide) rfl (fun ls hl => ?_)
  refine lv_iconst (v := 0) hx hb dX6_nets_2 (by decide) ?_
  refine lv_istore (lv' := [(4, .int 0), (2, .long 0), (0, .ref (ad 0 0)), (1, .int a1)]) hx hb dX6_nets_3 hl (by decide) rfl (fun ls hl => ?_)
  exact wX6_nets_L5 hC hK hA 1000 _ _ _ σ 0 0 a1 hR hS (lv_sub hl [0, 1, 2, 3] rfl) hf
def fX6_covers_L91 {β : Type} (k : St → Int32 → Int64 → Int64 → Int64 → Int64 → Int32 → Int64 → Option β) : Nat → St → Int32 → Int64 → Int64 → Int64 → Int64 → Int32 → Int64 → Option (β)
  | 0, _, _, _, _, _, _, _, _ => none
  | n + 1, σ, v12, v10, v8, v6, v4, v1, v2 => if 5 ≤ v12 then k σ v12 v10 v8 v6 v4 v1 v2 else gd (vin v12 5) (if ¬ (gI σ 10 0 v12.toNatClampNeg) = 0 then kst (v6 - 0) (fun x9 => kst (v12 + 1) (fun x10 => fX6_covers_L91 k n (pL σ 8 0 v12.toNatClampNeg ((gL σ 8 0 v12.toNatClampNeg) - 0)) x10 v10 v8 x9 v4 v1 v2)) else if (gL σ 8 0 v12.toNatClampNeg) ≤ 0 then kst (v6 - 0) (fun x13 => kst (v12 + 1) (fun x14 => fX6_covers_L91 k n (pL σ 8 0 v12.toNatClampNeg ((gL σ 8 0 v12.toNatClampNeg) - 0)) x14 v10 v8 x13 v4 v1 v2)) else if v10 < v8 then gd (¬ v8 = 0) (kst ((v10 * (gL σ 8 0 v12.toNatClampNeg)) / v8) (fun x18 => kst (v6 - x18) (fun x19 => kst (v12 + 1) (fun x20 => fX6_covers_L91 k n (pL σ 8 0 v12.toNatClampNeg ((gL σ 8 0 v12.toNatClampNeg) - x18)) x20 v10 v8 x19 v4 v1 v2)))) else kst (gL σ 8 0 v12.toNatClampNeg) (fun x21 => kst (v6 - x21) (fun x22 => kst (v12 + 1) (fun x23 => fX6_covers_L91 k n (pL σ 8 0 v12.toNatClampNeg ((gL σ 8 0 v12.toNatClampNeg) - x21)) x23 v10 v8 x22 v4 v1 v2))))
set_option maxHeartbeats 4000000 in
set_option maxRecDepth 100000 in
theorem wX6_covers_L91 {p : Program} {l : Launch} {e : Env} {s : State} {m : MethodId} {args : Array Value} {below : List Frame} {meth : Method} {c : Code} {D : va_G} {dA : Nat → ClassId} {A0 : Nat → Prop} {ad : Nat → Nat → Nat} {β : Type} {o : β} {Q : State → Prop} {k : St → Int32 → Int64 → Int64 → Int64 → Int64 → Int32 → Int64 → Option β} (hC : CTX p s m args meth c cX6_covers 16 RX6 none) (hK : KS D dA s) (hA : ∀ q, s.heap.size ≤ q → A0 q) (hk : ∀ (H : Heap) (locs : List Loc) (ls : Array Slot) (σ : St) (v12 : Int32) (v10 : Int64) (v8 : Int64) (v6 : Int64) (v4 : Int64) (v1 : Int32) (v2 : Int64), HM D dA A0 ad σ H → va_S A0 s.heap H locs → lv_has ls 16 [(12, .int v12), (10, .long v10), (8, .long v8), (6, .long v6), (4, .long v4), (0, .ref (ad 0 0)), (1, .int v1), (2, .long v2)] → k σ v12 v10 v8 v6 v4 v1 v2 = some o → W p l e ({ frames := 0, cells := 0, slots := 0, locals := 0 } : Room) s m args below meth c H locs 0 0 Q (F0 m 193 ls [])) : ∀ (n : Nat) (H : Heap) (locs : List Loc) (ls : Array Slot) (σ : St) (v12 : Int32) (v10 : Int64) (v8 : Int64) (v6 : Int64) (v4 : Int64) (v1 : Int32) (v2 : Int64), HM D dA A0 ad σ H → va_S A0 s.heap H locs → lv_has ls 16 [(12, .int v12), (10, .long v10), (8, .long v8), (6, .long v6), (4, .long v4), (0, .ref (ad 0 0)), (1, .int v1), (2, .long v2)] → fX6_covers_L91 k n σ v12 v10 v8 v6 v4 v1 v2 = some o → W p l e ({ frames := 0, cells := 0, slots := 0, locals := 0 } : Room) s m args below meth c H locs 0 0 Q (F0 m 91 ls []) := by
  obtain ⟨hx, hb, hml, hown, hts, hr, hlk⟩ := id hC
  intro n
  induction n with
  | zero =>
    intro H locs ls σ v12 v10 v8 v6 v4 v1 v2 hR hS hl hf
    rw [fX6_covers_L91.eq_1] at hf
    cases hf
  | succ n ih =>
    intro H locs ls σ v12 v10 v8 v6 v4 v1 v2 hR hS hl hf
    rw [fX6_covers_L91.eq_2] at hf
    refine lv_iload hx hb dX6_covers_91 (lv_at hl 0 rfl) ?_
    refine lv_iconst (v := 5) hx hb dX6_covers_93 (by decide) ?_
    refine lv_icmp_ge (tgt := 193) hx hb dX6_covers_94 (by decide) (fun c5 => ?_) (fun c5 => ?_)
    · have hf := if_of_pos hf c5
      exact hk _ _ _ σ v12 v10 v8 v6 v4 v1 v2 hR hS (lv_sub hl [0, 1, 2, 3, 4, 5, 6, 7] rfl) hf
    · have hf := if_of_neg hf c5
      refine lv_aload_n hx hb dX6_covers_97 rfl (lv_at hl 5 rfl) ?_
      refine va_get (D := D) (ci := 7) (C := RX6) (T := TX6) (N := 22) hx hb hts iuX6 hown hK.1 (WW_one hR (f := 0) (i := 0) rfl) 0 rfl rfl 9 (by decide) (hts _ q_817) (fun _ h9 => h9) rfl dX6_covers_98 ?_
      refine lv_iload hx hb dX6_covers_101 (lv_at hl 0 rfl) ?_
      obtain ⟨g6, hf⟩ := gd_of hf
      refine va_zald hx hb hK.1 (WW_one hR (f := 10) (i := 0) rfl) 0 2 rfl rfl g6 dX6_covers_103 ?_
      refine lv_if_ne (tgt := 123) hx hb dX6_covers_104 (by decide) (fun c7 => ?_) (fun c7 => ?_)
      · have hf := if_of_pos hf c7
        refine lv_iconst (v := 0) hx hb dX6_covers_123 (by decide) ?_
        refine lv_istore (lv' := [(13, .int 0), (12, .int v12), (10, .long v10), (8, .long v8), (6, .long v6), (4, .long v4), (0, .ref (ad 0 0)), (1, .int v1), (2, .long v2)]) hx hb dX6_covers_124 hl (by decide) rfl (fun ls hl => ?_)
        refine lv_iload hx hb dX6_covers_126 (lv_at hl 0 rfl) ?_
        refine lv_if_ne (tgt := 135) hx hb dX6_covers_128 (by decide) (fun c8 => absurd c8 (by decide)) (fun c8 => ?_)
        refine lv_lconst (v := 0) hx hb dX6_covers_131 (by decide) ?_
        refine lv_goto (tgt := 166) hx hb dX6_covers_132 (by decide) ?_
        refine lv_lstore (lv' := [(14, .long 0), (13, .int 0), (12, .int v12), (10, .long v10), (8, .long v8), (6, .long v6), (4, .long v4), (0, .ref (ad 0 0)), (1, .int v1), (2, .long v2)]) hx hb dX6_covers_166 hl (by decide) rfl (fun ls hl => ?_)
        refine lv_aload_n hx hb dX6_covers_168 rfl (lv_at hl 7 rfl) ?_
        refine va_get (D := D) (ci := 7) (C := RX6) (T := TX6) (N := 22) hx hb hts iuX6 hown hK.1 (WW_one hR (f := 0) (i := 0) rfl) 0 rfl rfl 7 (by decide) (hts _ q_815) (fun _ h9 => h9) rfl dX6_covers_169 ?_
        refine lv_iload hx hb dX6_covers_172 (lv_at hl 2 rfl) ?_
        refine lv_dup2_11 hx hb dX6_covers_174 rfl rfl ?_
        refine va_lald hx hb hK.1 (WW_one hR (f := 8) (i := 0) rfl) 0 1 rfl rfl g6 dX6_covers_175 ?_
        refine lv_lload hx hb dX6_covers_176 (lv_at hl 0 rfl) ?_
        refine lv_lsub hx hb dX6_covers_178 ?_
        refine ww_last hx hb hK.1 hR hS 1 (f := 8) (j := 0) rfl rfl rfl g6 dX6_covers_179 (fun H locs hR hS => ?_)
        have hR := HM_row8 0 (v12.toNatClampNeg) ((gL σ 8 0 v12.toNatClampNeg) - 0) hR
        refine lv_lload hx hb dX6_covers_180 (lv_at hl 5 rfl) ?_
        refine lv_lload hx hb dX6_covers_182 (lv_at hl 0 rfl) ?_
        refine lv_lsub hx hb dX6_covers_184 ?_
        refine lv_topl (fun x9 hx9 => ?_)
        have hf := kst_eq hx9 hf
        refine lv_lstore (lv' := [(6, .long x9), (14, .long 0), (13, .int 0), (12, .int v12), (10, .long v10), (8, .long v8), (4, .long v4), (0, .ref (ad 0 0)), (1, .int v1), (2, .long v2)]) hx hb dX6_covers_185 hl (by decide) rfl (fun ls hl => ?_)
        obtain ⟨x10, hx10⟩ : ∃ y : Int32, y = v12 + 1 := ⟨_, rfl⟩
        have hf := kst_eq hx10 hf
        refine lv_iinc (v := x10) (lv' := [(12, .int x10), (6, .long x9), (14, .long 0), (13, .int 0), (10, .long v10), (8, .long v8), (4, .long v4), (0, .ref (ad 0 0)), (1, .int v1), (2, .long v2)]) hx hb dX6_covers_187 hl (k := 3) rfl (by rw [hx10]; rfl) (by decide) rfl (fun ls hl => ?_)
        refine lv_goto (tgt := 91) hx hb dX6_covers_190 (by decide) ?_
        exact ih _ _ _ (pL σ 8 0 v12.toNatClampNeg ((gL σ 8 0 v12.toNatClampNeg) - 0)) x10 v10 v8 x9 v4 v1 v2 hR hS (lv_sub hl [0, 4, 5, 1, 6, 7, 8, 9] rfl) hf
      · have hf := if_of_neg hf (fun q => q c7)
        refine lv_aload_n hx hb dX6_covers_107 rfl (lv_at hl 5 rfl) ?_
        refine va_get (D := D) (ci := 7) (C := RX6) (T := TX6) (N := 22) hx hb hts iuX6 hown hK.1 (WW_one hR (f := 0) (i := 0) rfl) 0 rfl rfl 7 (by decide) (hts _ q_815) (fun _ h9 => h9) rfl dX6_covers_108 ?_
        refine lv_iload hx hb dX6_covers_111 (lv_at hl 0 rfl) ?_
        refine va_lald hx hb hK.1 (WW_one hR (f := 8) (i := 0) rfl) 0 1 rfl rfl g6 dX6_covers_113 ?_
        refine lv_lconst (v := 0) hx hb dX6_covers_114 (by decide) ?_
        refine W.lcmp hx hb dX6_covers_115 ?_
        refine lv_if_le (tgt := 123) hx hb dX6_covers_116 (by decide) (fun c110 => ?_) (fun c110 => ?_)
        · have c11 : (gL σ 8 0 v12.toNatClampNeg) ≤ 0 := (lg_cmp_le _ _).mp c110
          have hf := if_of_pos hf c11
          refine lv_iconst (v := 0) hx hb dX6_covers_123 (by decide) ?_
          refine lv_istore (lv' := [(13, .int 0), (12, .int v12), (10, .long v10), (8, .long v8), (6, .long v6), (4, .long v4), (0, .ref (ad 0 0)), (1, .int v1), (2, .long v2)]) hx hb dX6_covers_124 hl (by decide) rfl (fun ls hl => ?_)
          refine lv_iload hx hb dX6_covers_126 (lv_at hl 0 rfl) ?_
          refine lv_if_ne (tgt := 135) hx hb dX6_covers_128 (by decide) (fun c12 => absurd c12 (by decide)) (fun c12 => ?_)
          refine lv_lconst (v := 0) hx hb dX6_covers_131 (by decide) ?_
          refine lv_goto (tgt := 166) hx hb dX6_covers_132 (by decide) ?_
          refine lv_lstore (lv' := [(14, .long 0), (13, .int 0), (12, .int v12), (10, .long v10), (8, .long v8), (6, .long v6), (4, .long v4), (0, .ref (ad 0 0)), (1, .int v1), (2, .long v2)]) hx hb dX6_covers_166 hl (by decide) rfl (fun ls hl => ?_)
          refine lv_aload_n hx hb dX6_covers_168 rfl (lv_at hl 7 rfl) ?_
          refine va_get (D := D) (ci := 7) (C := RX6) (T := TX6) (N := 22) hx hb hts iuX6 hown hK.1 (WW_one hR (f := 0) (i := 0) rfl) 0 rfl rfl 7 (by decide) (hts _ q_815) (fun _ h9 => h9) rfl dX6_covers_169 ?_
          refine lv_iload hx hb dX6_covers_172 (lv_at hl 2 rfl) ?_
          refine lv_dup2_11 hx hb dX6_covers_174 rfl rfl ?_
          refine va_lald hx hb hK.1 (WW_one hR (f := 8) (i := 0) rfl) 0 1 rfl rfl g6 dX6_covers_175 ?_
          refine lv_lload hx hb dX6_covers_176 (lv_at hl 0 rfl) ?_
          refine lv_lsub hx hb dX6_covers_178 ?_
          refine ww_last hx hb hK.1 hR hS 1 (f := 8) (j := 0) rfl rfl rfl g6 dX6_covers_179 (fun H locs hR hS => ?_)
          have hR := HM_row8 0 (v12.toNatClampNeg) ((gL σ 8 0 v12.toNatClampNeg) - 0) hR
          refine lv_lload hx hb dX6_covers_180 (lv_at hl 5 rfl) ?_
          refine lv_lload hx hb dX6_covers_182 (lv_at hl 0 rfl) ?_
          refine lv_lsub hx hb dX6_covers_184 ?_
          refine lv_topl (fun x13 hx13 => ?_)
          have hf := kst_eq hx13 hf
          refine lv_lstore (lv' := [(6, .long x13), (14, .long 0), (13, .int 0), (12, .int v12), (10, .long v10), (8, .long v8), (4, .long v4), (0, .ref (ad 0 0)), (1, .int v1), (2, .long v2)]) hx hb dX6_covers_185 hl (by decide) rfl (fun ls hl => ?_)
          obtain ⟨x14, hx14⟩ : ∃ y : Int32, y = v12 + 1 := ⟨_, rfl⟩
          have hf := kst_eq hx14 hf
          refine lv_iinc (v := x14) (lv' := [(12, .int x14), (6, .long x13), (14, .long 0), (13, .int 0), (10, .long v10), (8, .long v8), (4, .long v4), (0, .ref (ad 0 0)), (1, .int v1), (2, .long v2)]) hx hb dX6_covers_187 hl (k := 3) rfl (by rw [hx14]; rfl) (by decide) rfl (fun ls hl => ?_)
          refine lv_goto (tgt := 91) hx hb dX6_covers_190 (by decide) ?_
          exact ih _ _ _ (pL σ 8 0 v12.toNatClampNeg ((gL σ 8 0 v12.toNatClampNeg) - 0)) x14 v10 v8 x13 v4 v1 v2 hR hS (lv_sub hl [0, 4, 5, 1, 6, 7, 8, 9] rfl) hf
        · have c11 : ¬ ((gL σ 8 0 v12.toNatClampNeg) ≤ 0) := fun q => c110 ((lg_cmp_le _ _).mpr q)
          have hf := if_of_neg hf c11
          refine lv_iconst (v := 1) hx hb dX6_covers_119 (by decide) ?_
          refine lv_goto (tgt := 124) hx hb dX6_covers_120 (by decide) ?_
          refine lv_istore (lv' := [(13, .int 1), (12, .int v12), (10, .long v10), (8, .long v8), (6, .long v6), (4, .long v4), (0, .ref (ad 0 0)), (1, .int v1), (2, .long v2)]) hx hb dX6_covers_124 hl (by decide) rfl (fun ls hl => ?_)
          refine lv_iload hx hb dX6_covers_126 (lv_at hl 0 rfl) ?_
          refine lv_if_ne (tgt := 135) hx hb dX6_covers_128 (by decide) (fun c15 => ?_) (fun c15 => absurd c15 (by decide))
          refine lv_lload hx hb dX6_covers_135 (lv_at hl 3 rfl) ?_
          refine lv_lload hx hb dX6_covers_137 (lv_at hl 2 rfl) ?_
          refine W.lcmp hx hb dX6_covers_139 ?_
          refine lv_if_gt (tgt := 153) hx hb dX6_covers_140 (by decide) (fun c160 => ?_) (fun c160 => ?_)
          · have c16 : v10 < v8 := (lg_cmp_gt _ _).mp c160
            have hf := if_of_pos hf c16
            refine lv_lload hx hb dX6_covers_153 (lv_at hl 2 rfl) ?_
            refine lv_aload_n hx hb dX6_covers_155 rfl (lv_at hl 6 rfl) ?_
            refine va_get (D := D) (ci := 7) (C := RX6) (T := TX6) (N := 22) hx hb hts iuX6 hown hK.1 (WW_one hR (f := 0) (i := 0) rfl) 0 rfl rfl 7 (by decide) (hts _ q_815) (fun _ h9 => h9) rfl dX6_covers_156 ?_
            refine lv_iload hx hb dX6_covers_159 (lv_at hl 1 rfl) ?_
            refine va_lald hx hb hK.1 (WW_one hR (f := 8) (i := 0) rfl) 0 1 rfl rfl g6 dX6_covers_161 ?_
            refine lv_lmul hx hb dX6_covers_162 ?_
            refine lv_lload hx hb dX6_covers_163 (lv_at hl 3 rfl) ?_
            obtain ⟨g17, hf⟩ := gd_of hf
            refine lv_ldiv hx hb dX6_covers_165 g17 ?_
            refine lv_topl (fun x18 hx18 => ?_)
            have hf := kst_eq hx18 hf
            refine lv_lstore (lv' := [(14, .long x18), (13, .int 1), (12, .int v12), (10, .long v10), (8, .long v8), (6, .long v6), (4, .long v4), (0, .ref (ad 0 0)), (1, .int v1), (2, .long v2)]) hx hb dX6_covers_166 hl (by decide) rfl (fun ls hl => ?_)
            refine lv_aload_n hx hb dX6_covers_168 rfl (lv_at hl 7 rfl) ?_
            refine va_get (D := D) (ci := 7) (C := RX6) (T := TX6) (N := 22) hx hb hts iuX6 hown hK.1 (WW_one hR (f := 0) (i := 0) rfl) 0 rfl rfl 7 (by decide) (hts _ q_815) (fun _ h9 => h9) rfl dX6_covers_169 ?_
            refine lv_iload hx hb dX6_covers_172 (lv_at hl 2 rfl) ?_
            refine lv_dup2_11 hx hb dX6_covers_174 rfl rfl ?_
            refine va_lald hx hb hK.1 (WW_one hR (f := 8) (i := 0) rfl) 0 1 rfl rfl g6 dX6_covers_175 ?_
            refine lv_lload hx hb dX6_covers_176 (lv_at hl 0 rfl) ?_
            refine lv_lsub hx hb dX6_covers_178 ?_
            refine ww_last hx hb hK.1 hR hS 1 (f := 8) (j := 0) rfl rfl rfl g6 dX6_covers_179 (fun H locs hR hS => ?_)
            have hR := HM_row8 0 (v12.toNatClampNeg) ((gL σ 8 0 v12.toNatClampNeg) - x18) hR
            refine lv_lload hx hb dX6_covers_180 (lv_at hl 5 rfl) ?_
            refine lv_lload hx hb dX6_covers_182 (lv_at hl 0 rfl) ?_
            refine lv_lsub hx hb dX6_covers_184 ?_
            refine lv_topl (fun x19 hx19 => ?_)
            have hf := kst_eq hx19 hf
            refine lv_lstore (lv' := [(6, .long x19), (14, .long x18), (13, .int 1), (12, .int v12), (10, .long v10), (8, .long v8), (4, .long v4), (0, .ref (ad 0 0)), (1, .int v1), (2, .long v2)]) hx hb dX6_covers_185 hl (by decide) rfl (fun ls hl => ?_)
            obtain ⟨x20, hx20⟩ : ∃ y : Int32, y = v12 + 1 := ⟨_, rfl⟩
            have hf := kst_eq hx20 hf
            refine lv_iinc (v := x20) (lv' := [(12, .int x20), (6, .long x19), (14, .long x18), (13, .int 1), (10, .long v10), (8, .long v8), (4, .long v4), (0, .ref (ad 0 0)), (1, .int v1), (2, .long v2)]) hx hb dX6_covers_187 hl (k := 3) rfl (by rw [hx20]; rfl) (by decide) rfl (fun ls hl => ?_)
            refine lv_goto (tgt := 91) hx hb dX6_covers_190 (by decide) ?_
            exact ih _ _ _ (pL σ 8 0 v12.toNatClampNeg ((gL σ 8 0 v12.toNatClampNeg) - x18)) x20 v10 v8 x19 v4 v1 v2 hR hS (lv_sub hl [0, 4, 5, 1, 6, 7, 8, 9] rfl) hf
          · have c16 : ¬ (v10 < v8) := fun q => c160 ((lg_cmp_gt _ _).mpr q)
            have hf := if_of_neg hf c16
            refine lv_aload_n hx hb dX6_covers_143 rfl (lv_at hl 6 rfl) ?_
            refine va_get (D := D) (ci := 7) (C := RX6) (T := TX6) (N := 22) hx hb hts iuX6 hown hK.1 (WW_one hR (f := 0) (i := 0) rfl) 0 rfl rfl 7 (by decide) (hts _ q_815) (fun _ h9 => h9) rfl dX6_covers_144 ?_
            refine lv_iload hx hb dX6_covers_147 (lv_at hl 1 rfl) ?_
            refine va_lald hx hb hK.1 (WW_one hR (f := 8) (i := 0) rfl) 0 1 rfl rfl g6 dX6_covers_149 ?_
            refine lv_goto (tgt := 166) hx hb dX6_covers_150 (by decide) ?_
            refine lv_topl (fun x21 hx21 => ?_)
            have hf := kst_eq hx21 hf
            refine lv_lstore (lv' := [(14, .long x21), (13, .int 1), (12, .int v12), (10, .long v10), (8, .long v8), (6, .long v6), (4, .long v4), (0, .ref (ad 0 0)), (1, .int v1), (2, .long v2)]) hx hb dX6_covers_166 hl (by decide) rfl (fun ls hl => ?_)
            refine lv_aload_n hx hb dX6_covers_168 rfl (lv_at hl 7 rfl) ?_
            refine va_get (D := D) (ci := 7) (C := RX6) (T := TX6) (N := 22) hx hb hts iuX6 hown hK.1 (WW_one hR (f := 0) (i := 0) rfl) 0 rfl rfl 7 (by decide) (hts _ q_815) (fun _ h9 => h9) rfl dX6_covers_169 ?_
            refine lv_iload hx hb dX6_covers_172 (lv_at hl 2 rfl) ?_
            refine lv_dup2_11 hx hb dX6_covers_174 rfl rfl ?_
            refine va_lald hx hb hK.1 (WW_one hR (f := 8) (i := 0) rfl) 0 1 rfl rfl g6 dX6_covers_175 ?_
            refine lv_lload hx hb dX6_covers_176 (lv_at hl 0 rfl) ?_
            refine lv_lsub hx hb dX6_covers_178 ?_
            refine ww_last hx hb hK.1 hR hS 1 (f := 8) (j := 0) rfl rfl rfl g6 dX6_covers_179 (fun H locs hR hS => ?_)
            have hR := HM_row8 0 (v12.toNatClampNeg) ((gL σ 8 0 v12.toNatClampNeg) - x21) hR
            refine lv_lload hx hb dX6_covers_180 (lv_at hl 5 rfl) ?_
            refine lv_lload hx hb dX6_covers_182 (lv_at hl 0 rfl) ?_
            refine lv_lsub hx hb dX6_covers_184 ?_
            refine lv_topl (fun x22 hx22 => ?_)
            have hf := kst_eq hx22 hf
            refine lv_lstore (lv' := [(6, .long x22), (14, .long x21), (13, .int 1), (12, .int v12), (10, .long v10), (8, .long v8), (4, .long v4), (0, .ref (ad 0 0)), (1, .int v1), (2, .long v2)]) hx hb dX6_covers_185 hl (by decide) rfl (fun ls hl => ?_)
            obtain ⟨x23, hx23⟩ : ∃ y : Int32, y = v12 + 1 := ⟨_, rfl⟩
            have hf := kst_eq hx23 hf
            refine lv_iinc (v := x23) (lv' := [(12, .int x23), (6, .long x22), (14, .long x21), (13, .int 1), (10, .long v10), (8, .long v8), (4, .long v4), (0, .ref (ad 0 0)), (1, .int v1), (2, .long v2)]) hx hb dX6_covers_187 hl (k := 3) rfl (by rw [hx23]; rfl) (by decide) rfl (fun ls hl => ?_)
            refine lv_goto (tgt := 91) hx hb dX6_covers_190 (by decide) ?_
            exact ih _ _ _ (pL σ 8 0 v12.toNatClampNeg ((gL σ 8 0 v12.toNatClampNeg) - x21)) x23 v10 v8 x22 v4 v1 v2 hR hS (lv_sub hl [0, 4, 5, 1, 6, 7, 8, 9] rfl) hf
def fX6_covers_L196 {β : Type} (k : St → Int32 → Int64 → Int64 → Int64 → Int64 → Int32 → Int64 → Option β) : Nat → St → Int32 → Int64 → Int64 → Int64 → Int64 → Int32 → Int64 → Option (β)
  | 0, _, _, _, _, _, _, _, _ => none
  | n + 1, σ, v12, v10, v8, v6, v4, v1, v2 => if 5 ≤ v12 then k σ v12 v10 v8 v6 v4 v1 v2 else gd (vin v12 5) (if (gI σ 10 0 v12.toNatClampNeg) = 0 then if v6 ≤ (gL σ 8 0 v12.toNatClampNeg) then kst (v6 - v6) (fun x36 => kst (v12 + 1) (fun x37 => fX6_covers_L196 k n (pL σ 8 0 v12.toNatClampNeg ((gL σ 8 0 v12.toNatClampNeg) - v6)) x37 v10 v8 x36 v4 v1 v2)) else kst (gL σ 8 0 v12.toNatClampNeg) (fun x38 => kst (v6 - x38) (fun x39 => kst (v12 + 1) (fun x40 => fX6_covers_L196 k n (pL σ 8 0 v12.toNatClampNeg ((gL σ 8 0 v12.toNatClampNeg) - x38)) x40 v10 v8 x39 v4 v1 v2))) else kst (v6 - 0) (fun x41 => kst (v12 + 1) (fun x42 => fX6_covers_L196 k n (pL σ 8 0 v12.toNatClampNeg ((gL σ 8 0 v12.toNatClampNeg) - 0)) x42 v10 v8 x41 v4 v1 v2)))
set_option maxHeartbeats 4000000 in
set_option maxRecDepth 100000 in
theorem wX6_covers_L196 {p : Program} {l : Launch} {e : Env} {s : State} {m : MethodId} {args : Array Value} {below : List Frame} {meth : Method} {c : Code} {D : va_G} {dA : Nat → ClassId} {A0 : Nat → Prop} {ad : Nat → Nat → Nat} {β : Type} {o : β} {Q : State → Prop} {k : St → Int32 → Int64 → Int64 → Int64 → Int64 → Int32 → Int64 → Option β} (hC : CTX p s m args meth c cX6_covers 16 RX6 none) (hK : KS D dA s) (hA : ∀ q, s.heap.size ≤ q → A0 q) (hk : ∀ (H : Heap) (locs : List Loc) (ls : Array Slot) (σ : St) (v12 : Int32) (v10 : Int64) (v8 : Int64) (v6 : Int64) (v4 : Int64) (v1 : Int32) (v2 : Int64), HM D dA A0 ad σ H → va_S A0 s.heap H locs → lv_has ls 16 [(12, .int v12), (10, .long v10), (8, .long v8), (6, .long v6), (4, .long v4), (0, .ref (ad 0 0)), (1, .int v1), (2, .long v2)] → k σ v12 v10 v8 v6 v4 v1 v2 = some o → W p l e ({ frames := 0, cells := 0, slots := 0, locals := 0 } : Room) s m args below meth c H locs 0 0 Q (F0 m 268 ls [])) : ∀ (n : Nat) (H : Heap) (locs : List Loc) (ls : Array Slot) (σ : St) (v12 : Int32) (v10 : Int64) (v8 : Int64) (v6 : Int64) (v4 : Int64) (v1 : Int32) (v2 : Int64), HM D dA A0 ad σ H → va_S A0 s.heap H locs → lv_has ls 16 [(12, .int v12), (10, .long v10), (8, .long v8), (6, .long v6), (4, .long v4), (0, .ref (ad 0 0)), (1, .int v1), (2, .long v2)] → fX6_covers_L196 k n σ v12 v10 v8 v6 v4 v1 v2 = some o → W p l e ({ frames := 0, cells := 0, slots := 0, locals := 0 } : Room) s m args below meth c H locs 0 0 Q (F0 m 196 ls []) := by
  obtain ⟨hx, hb, hml, hown, hts, hr, hlk⟩ := id hC
  intro n
  induction n with
  | zero =>
    intro H locs ls σ v12 v10 v8 v6 v4 v1 v2 hR hS hl hf
    rw [fX6_covers_L196.eq_1] at hf
    cases hf
  | succ n ih =>
    intro H locs ls σ v12 v10 v8 v6 v4 v1 v2 hR hS hl hf
    rw [fX6_covers_L196.eq_2] at hf
    refine lv_iload hx hb dX6_covers_196 (lv_at hl 0 rfl) ?_
    refine lv_iconst (v := 5) hx hb dX6_covers_198 (by decide) ?_
    refine lv_icmp_ge (tgt := 268) hx hb dX6_covers_199 (by decide) (fun c32 => ?_) (fun c32 => ?_)
    · have hf := if_of_pos hf c32
      exact hk _ _ _ σ v12 v10 v8 v6 v4 v1 v2 hR hS (lv_sub hl [0, 1, 2, 3, 4, 5, 6, 7] rfl) hf
    · have hf := if_of_neg hf c32
      refine lv_aload_n hx hb dX6_covers_202 rfl (lv_at hl 5 rfl) ?_
      refine va_get (D := D) (ci := 7) (C := RX6) (T := TX6) (N := 22) hx hb hts iuX6 hown hK.1 (WW_one hR (f := 0) (i := 0) rfl) 0 rfl rfl 9 (by decide) (hts _ q_817) (fun _ h9 => h9) rfl dX6_covers_203 ?_
      refine lv_iload hx hb dX6_covers_206 (lv_at hl 0 rfl) ?_
      obtain ⟨g33, hf⟩ := gd_of hf
      refine va_zald hx hb hK.1 (WW_one hR (f := 10) (i := 0) rfl) 0 2 rfl rfl g33 dX6_covers_208 ?_
      refine lv_if_eq (tgt := 216) hx hb dX6_covers_209 (by decide) (fun c34 => ?_) (fun c34 => ?_)
      · have hf := if_of_pos hf c34
        refine lv_aload_n hx hb dX6_covers_216 rfl (lv_at hl 5 rfl) ?_
        refine va_get (D := D) (ci := 7) (C := RX6) (T := TX6) (N := 22) hx hb hts iuX6 hown hK.1 (WW_one hR (f := 0) (i := 0) rfl) 0 rfl rfl 7 (by decide) (hts _ q_815) (fun _ h9 => h9) rfl dX6_covers_217 ?_
        refine lv_iload hx hb dX6_covers_220 (lv_at hl 0 rfl) ?_
        refine va_lald hx hb hK.1 (WW_one hR (f := 8) (i := 0) rfl) 0 1 rfl rfl g33 dX6_covers_222 ?_
        refine lv_lload hx hb dX6_covers_223 (lv_at hl 3 rfl) ?_
        refine W.lcmp hx hb dX6_covers_225 ?_
        refine lv_if_ge (tgt := 239) hx hb dX6_covers_226 (by decide) (fun c350 => ?_) (fun c350 => ?_)
        · have c35 : v6 ≤ (gL σ 8 0 v12.toNatClampNeg) := (lg_cmp_ge _ _).mp c350
          have hf := if_of_pos hf c35
          refine lv_lload hx hb dX6_covers_239 (lv_at hl 3 rfl) ?_
          refine lv_lstore (lv' := [(13, .long v6), (12, .int v12), (10, .long v10), (8, .long v8), (6, .long v6), (4, .long v4), (0, .ref (ad 0 0)), (1, .int v1), (2, .long v2)]) hx hb dX6_covers_241 hl (by decide) rfl (fun ls hl => ?_)
          refine lv_aload_n hx hb dX6_covers_243 rfl (lv_at hl 6 rfl) ?_
          refine va_get (D := D) (ci := 7) (C := RX6) (T := TX6) (N := 22) hx hb hts iuX6 hown hK.1 (WW_one hR (f := 0) (i := 0) rfl) 0 rfl rfl 7 (by decide) (hts _ q_815) (fun _ h9 => h9) rfl dX6_covers_244 ?_
          refine lv_iload hx hb dX6_covers_247 (lv_at hl 1 rfl) ?_
          refine lv_dup2_11 hx hb dX6_covers_249 rfl rfl ?_
          refine va_lald hx hb hK.1 (WW_one hR (f := 8) (i := 0) rfl) 0 1 rfl rfl g33 dX6_covers_250 ?_
          refine lv_lload hx hb dX6_covers_251 (lv_at hl 0 rfl) ?_
          refine lv_lsub hx hb dX6_covers_253 ?_
          refine ww_last hx hb hK.1 hR hS 1 (f := 8) (j := 0) rfl rfl rfl g33 dX6_covers_254 (fun H locs hR hS => ?_)
          have hR := HM_row8 0 (v12.toNatClampNeg) ((gL σ 8 0 v12.toNatClampNeg) - v6) hR
          refine lv_lload hx hb dX6_covers_255 (lv_at hl 4 rfl) ?_
          refine lv_lload hx hb dX6_covers_257 (lv_at hl 0 rfl) ?_
          refine lv_lsub hx hb dX6_covers_259 ?_
          refine lv_topl (fun x36 hx36 => ?_)
          have hf := kst_eq hx36 hf
          refine lv_lstore (lv' := [(6, .long x36), (13, .long v6), (12, .int v12), (10, .long v10), (8, .long v8), (4, .long v4), (0, .ref (ad 0 0)), (1, .int v1), (2, .long v2)]) hx hb dX6_covers_260 hl (by decide) rfl (fun ls hl => ?_)
          obtain ⟨x37, hx37⟩ : ∃ y : Int32, y = v12 + 1 := ⟨_, rfl⟩
          have hf := kst_eq hx37 hf
          refine lv_iinc (v := x37) (lv' := [(12, .int x37), (6, .long x36), (13, .long v6), (10, .long v10), (8, .long v8), (4, .long v4), (0, .ref (ad 0 0)), (1, .int v1), (2, .long v2)]) hx hb dX6_covers_262 hl (k := 2) rfl (by rw [hx37]; rfl) (by decide) rfl (fun ls hl => ?_)
          refine lv_goto (tgt := 196) hx hb dX6_covers_265 (by decide) ?_
          exact ih _ _ _ (pL σ 8 0 v12.toNatClampNeg ((gL σ 8 0 v12.toNatClampNeg) - v6)) x37 v10 v8 x36 v4 v1 v2 hR hS (lv_sub hl [0, 3, 4, 1, 5, 6, 7, 8] rfl) hf
        · have c35 : ¬ (v6 ≤ (gL σ 8 0 v12.toNatClampNeg)) := fun q => c350 ((lg_cmp_ge _ _).mpr q)
          have hf := if_of_neg hf c35
          refine lv_aload_n hx hb dX6_covers_229 rfl (lv_at hl 5 rfl) ?_
          refine va_get (D := D) (ci := 7) (C := RX6) (T := TX6) (N := 22) hx hb hts iuX6 hown hK.1 (WW_one hR (f := 0) (i := 0) rfl) 0 rfl rfl 7 (by decide) (hts _ q_815) (fun _ h9 => h9) rfl dX6_covers_230 ?_
          refine lv_iload hx hb dX6_covers_233 (lv_at hl 0 rfl) ?_
          refine va_lald hx hb hK.1 (WW_one hR (f := 8) (i := 0) rfl) 0 1 rfl rfl g33 dX6_covers_235 ?_
          refine lv_goto (tgt := 241) hx hb dX6_covers_236 (by decide) ?_
          refine lv_topl (fun x38 hx38 => ?_)
          have hf := kst_eq hx38 hf
          refine lv_lstore (lv' := [(13, .long x38), (12, .int v12), (10, .long v10), (8, .long v8), (6, .long v6), (4, .long v4), (0, .ref (ad 0 0)), (1, .int v1), (2, .long v2)]) hx hb dX6_covers_241 hl (by decide) rfl (fun ls hl => ?_)
          refine lv_aload_n hx hb dX6_covers_243 rfl (lv_at hl 6 rfl) ?_
          refine va_get (D := D) (ci := 7) (C := RX6) (T := TX6) (N := 22) hx hb hts iuX6 hown hK.1 (WW_one hR (f := 0) (i := 0) rfl) 0 rfl rfl 7 (by decide) (hts _ q_815) (fun _ h9 => h9) rfl dX6_covers_244 ?_
          refine lv_iload hx hb dX6_covers_247 (lv_at hl 1 rfl) ?_
          refine lv_dup2_11 hx hb dX6_covers_249 rfl rfl ?_
          refine va_lald hx hb hK.1 (WW_one hR (f := 8) (i := 0) rfl) 0 1 rfl rfl g33 dX6_covers_250 ?_
          refine lv_lload hx hb dX6_covers_251 (lv_at hl 0 rfl) ?_
          refine lv_lsub hx hb dX6_covers_253 ?_
          refine ww_last hx hb hK.1 hR hS 1 (f := 8) (j := 0) rfl rfl rfl g33 dX6_covers_254 (fun H locs hR hS => ?_)
          have hR := HM_row8 0 (v12.toNatClampNeg) ((gL σ 8 0 v12.toNatClampNeg) - x38) hR
          refine lv_lload hx hb dX6_covers_255 (lv_at hl 4 rfl) ?_
          refine lv_lload hx hb dX6_covers_257 (lv_at hl 0 rfl) ?_
          refine lv_lsub hx hb dX6_covers_259 ?_
          refine lv_topl (fun x39 hx39 => ?_)
          have hf := kst_eq hx39 hf
          refine lv_lstore (lv' := [(6, .long x39), (13, .long x38), (12, .int v12), (10, .long v10), (8, .long v8), (4, .long v4), (0, .ref (ad 0 0)), (1, .int v1), (2, .long v2)]) hx hb dX6_covers_260 hl (by decide) rfl (fun ls hl => ?_)
          obtain ⟨x40, hx40⟩ : ∃ y : Int32, y = v12 + 1 := ⟨_, rfl⟩
          have hf := kst_eq hx40 hf
          refine lv_iinc (v := x40) (lv' := [(12, .int x40), (6, .long x39), (13, .long x38), (10, .long v10), (8, .long v8), (4, .long v4), (0, .ref (ad 0 0)), (1, .int v1), (2, .long v2)]) hx hb dX6_covers_262 hl (k := 2) rfl (by rw [hx40]; rfl) (by decide) rfl (fun ls hl => ?_)
          refine lv_goto (tgt := 196) hx hb dX6_covers_265 (by decide) ?_
          exact ih _ _ _ (pL σ 8 0 v12.toNatClampNeg ((gL σ 8 0 v12.toNatClampNeg) - x38)) x40 v10 v8 x39 v4 v1 v2 hR hS (lv_sub hl [0, 3, 4, 1, 5, 6, 7, 8] rfl) hf
      · have hf := if_of_neg hf c34
        refine lv_lconst (v := 0) hx hb dX6_covers_212 (by decide) ?_
        refine lv_goto (tgt := 241) hx hb dX6_covers_213 (by decide) ?_
        refine lv_lstore (lv' := [(13, .long 0), (12, .int v12), (10, .long v10), (8, .long v8), (6, .long v6), (4, .long v4), (0, .ref (ad 0 0)), (1, .int v1), (2, .long v2)]) hx hb dX6_covers_241 hl (by decide) rfl (fun ls hl => ?_)
        refine lv_aload_n hx hb dX6_covers_243 rfl (lv_at hl 6 rfl) ?_
        refine va_get (D := D) (ci := 7) (C := RX6) (T := TX6) (N := 22) hx hb hts iuX6 hown hK.1 (WW_one hR (f := 0) (i := 0) rfl) 0 rfl rfl 7 (by decide) (hts _ q_815) (fun _ h9 => h9) rfl dX6_covers_244 ?_
        refine lv_iload hx hb dX6_covers_247 (lv_at hl 1 rfl) ?_
        refine lv_dup2_11 hx hb dX6_covers_249 rfl rfl ?_
        refine va_lald hx hb hK.1 (WW_one hR (f := 8) (i := 0) rfl) 0 1 rfl rfl g33 dX6_covers_250 ?_
        refine lv_lload hx hb dX6_covers_251 (lv_at hl 0 rfl) ?_
        refine lv_lsub hx hb dX6_covers_253 ?_
        refine ww_last hx hb hK.1 hR hS 1 (f := 8) (j := 0) rfl rfl rfl g33 dX6_covers_254 (fun H locs hR hS => ?_)
        have hR := HM_row8 0 (v12.toNatClampNeg) ((gL σ 8 0 v12.toNatClampNeg) - 0) hR
        refine lv_lload hx hb dX6_covers_255 (lv_at hl 4 rfl) ?_
        refine lv_lload hx hb dX6_covers_257 (lv_at hl 0 rfl) ?_
        refine lv_lsub hx hb dX6_covers_259 ?_
        refine lv_topl (fun x41 hx41 => ?_)
        have hf := kst_eq hx41 hf
        refine lv_lstore (lv' := [(6, .long x41), (13, .long 0), (12, .int v12), (10, .long v10), (8, .long v8), (4, .long v4), (0, .ref (ad 0 0)), (1, .int v1), (2, .long v2)]) hx hb dX6_covers_260 hl (by decide) rfl (fun ls hl => ?_)
        obtain ⟨x42, hx42⟩ : ∃ y : Int32, y = v12 + 1 := ⟨_, rfl⟩
        have hf := kst_eq hx42 hf
        refine lv_iinc (v := x42) (lv' := [(12, .int x42), (6, .long x41), (13, .long 0), (10, .long v10), (8, .long v8), (4, .long v4), (0, .ref (ad 0 0)), (1, .int v1), (2, .long v2)]) hx hb dX6_covers_262 hl (k := 2) rfl (by rw [hx42]; rfl) (by decide) rfl (fun ls hl => ?_)
        refine lv_goto (tgt := 196) hx hb dX6_covers_265 (by decide) ?_
        exact ih _ _ _ (pL σ 8 0 v12.toNatClampNeg ((gL σ 8 0 v12.toNatClampNeg) - 0)) x42 v10 v8 x41 v4 v1 v2 hR hS (lv_sub hl [0, 3, 4, 1, 5, 6, 7, 8] rfl) hf
def fX6_covers_L46 : Nat → St → Int32 → Int64 → Int64 → Int64 → Int32 → Int64 → Option (St)
  | 0, _, _, _, _, _, _, _ => none
  | n + 1, σ, v10, v8, v6, v4, v1, v2 => if 5 ≤ v10 then fX6_covers_L91 (fun s24 y25 y26 y27 y28 y29 y30 y31 => fX6_covers_L196 (fun s43 y44 y45 y46 y47 y48 y49 y50 => some (pL s43 20 0 0 ((gL s43 20 0 0) + y47))) 1000 s24 0 y26 y27 y28 y29 y30 y31) 1000 σ 0 v6 v8 v6 v4 v1 v2 else gd (vin v10 5) (if (gI σ 10 0 v10.toNatClampNeg) = 0 then kst (v8 + (gL σ 8 0 v10.toNatClampNeg)) (fun x53 => kst (v10 + 1) (fun x54 => fX6_covers_L46 n σ x54 x53 v6 v4 v1 v2)) else kst (v8 + 0) (fun x55 => kst (v10 + 1) (fun x56 => fX6_covers_L46 n σ x56 x55 v6 v4 v1 v2)))
set_option maxHeartbeats 4000000 in
set_option maxRecDepth 100000 in
theorem wX6_covers_L46 {p : Program} {l : Launch} {e : Env} {s : State} {m : MethodId} {args : Array Value} {below : List Frame} {meth : Method} {c : Code} {D : va_G} {dA : Nat → ClassId} {A0 : Nat → Prop} {ad : Nat → Nat → Nat} {σ' : St}  (hC : CTX p s m args meth c cX6_covers 16 RX6 none) (hK : KS D dA s) (hA : ∀ q, s.heap.size ≤ q → A0 q) : ∀ (n : Nat) (H : Heap) (locs : List Loc) (ls : Array Slot) (σ : St) (v10 : Int32) (v8 : Int64) (v6 : Int64) (v4 : Int64) (v1 : Int32) (v2 : Int64), HM D dA A0 ad σ H → va_S A0 s.heap H locs → lv_has ls 16 [(10, .int v10), (8, .long v8), (6, .long v6), (4, .long v4), (0, .ref (ad 0 0)), (1, .int v1), (2, .long v2)] → fX6_covers_L46 n σ v10 v8 v6 v4 v1 v2 = some σ' → W p l e ({ frames := 0, cells := 0, slots := 0, locals := 0 } : Room) s m args below meth c H locs 0 0 (MQ below (va_Qv (fun (_ : Unit) => True) (fun _ t => HM D dA A0 ad σ' t.heap) A0) args s 0 0 A0) (F0 m 46 ls []) := by
  obtain ⟨hx, hb, hml, hown, hts, hr, hlk⟩ := id hC
  intro n
  induction n with
  | zero =>
    intro H locs ls σ v10 v8 v6 v4 v1 v2 hR hS hl hf
    rw [fX6_covers_L46.eq_1] at hf
    cases hf
  | succ n ih =>
    intro H locs ls σ v10 v8 v6 v4 v1 v2 hR hS hl hf
    rw [fX6_covers_L46.eq_2] at hf
    refine lv_iload hx hb dX6_covers_46 (lv_at hl 0 rfl) ?_
    refine lv_iconst (v := 5) hx hb dX6_covers_48 (by decide) ?_
    refine lv_icmp_ge (tgt := 84) hx hb dX6_covers_49 (by decide) (fun c4 => ?_) (fun c4 => ?_)
    · have hf := if_of_pos hf c4
      refine lv_lload hx hb dX6_covers_84 (lv_at hl 2 rfl) ?_
      refine lv_lstore (lv' := [(10, .long v6), (8, .long v8), (6, .long v6), (4, .long v4), (0, .ref (ad 0 0)), (1, .int v1), (2, .long v2)]) hx hb dX6_covers_86 hl (by decide) rfl (fun ls hl => ?_)
      refine lv_iconst (v := 0) hx hb dX6_covers_88 (by decide) ?_
      refine lv_istore (lv' := [(12, .int 0), (10, .long v6), (8, .long v8), (6, .long v6), (4, .long v4), (0, .ref (ad 0 0)), (1, .int v1), (2, .long v2)]) hx hb dX6_covers_89 hl (by decide) rfl (fun ls hl => ?_)
      refine wX6_covers_L91 hC hK hA (fun H locs ls s24 y25 y26 y27 y28 y29 y30 y31 hR hS hl hf => ?_) 1000 _ _ _ σ 0 v6 v8 v6 v4 v1 v2 hR hS (lv_sub hl [0, 1, 2, 3, 4, 5, 6, 7] rfl) hf
      refine lv_iconst (v := 0) hx hb dX6_covers_193 (by decide) ?_
      refine lv_istore (lv' := [(12, .int 0), (10, .long y26), (8, .long y27), (6, .long y28), (4, .long y29), (0, .ref (ad 0 0)), (1, .int y30), (2, .long y31)]) hx hb dX6_covers_194 hl (by decide) rfl (fun ls hl => ?_)
      refine wX6_covers_L196 hC hK hA (fun H locs ls s43 y44 y45 y46 y47 y48 y49 y50 hR hS hl hf => ?_) 1000 _ _ _ s24 0 y26 y27 y28 y29 y30 y31 hR hS (lv_sub hl [0, 1, 2, 3, 4, 5, 6, 7] rfl) hf
      refine lv_aload_n hx hb dX6_covers_268 rfl (lv_at hl 5 rfl) ?_
      refine lv_dup hx hb dX6_covers_269 rfl ?_
      refine va_get (D := D) (ci := 7) (C := RX6) (T := TX6) (N := 22) hx hb hts iuX6 hown hK.1 (WW_one hR (f := 0) (i := 0) rfl) 0 rfl rfl 10 (by decide) (hts _ q_818) (fun _ h9 => h9) rfl dX6_covers_270 ?_
      refine lv_lload hx hb dX6_covers_273 (lv_at hl 3 rfl) ?_
      refine lv_ladd hx hb dX6_covers_275 ?_
      refine ww_put (D := D) (ci := 7) (C := RX6) (T := TX6) (N := 22) (ty := .long) hx hb hts iuX6 tyX6 tyX6_ok nmX6 hown hK.1 hR hS (f := 0) (i := 0) rfl rfl rfl 10 (by decide) (hts _ q_818) (fun _ h9 => h9) rfl (by decide +kernel) rfl rfl (Nat.le_of_ble_eq_true rfl) dX6_covers_276 (fun H locs hR hS => ?_)
      have hR := HM_model_unpaid 0 ((gL s43 20 0 0) + y47) hR
      cases hf
      exact ret_v hC hR hS dX6_covers_279
    · have hf := if_of_neg hf c4
      refine lv_lload hx hb dX6_covers_52 (lv_at hl 1 rfl) ?_
      refine lv_aload_n hx hb dX6_covers_54 rfl (lv_at hl 4 rfl) ?_
      refine va_get (D := D) (ci := 7) (C := RX6) (T := TX6) (N := 22) hx hb hts iuX6 hown hK.1 (WW_one hR (f := 0) (i := 0) rfl) 0 rfl rfl 9 (by decide) (hts _ q_817) (fun _ h9 => h9) rfl dX6_covers_55 ?_
      refine lv_iload hx hb dX6_covers_58 (lv_at hl 0 rfl) ?_
      obtain ⟨g51, hf⟩ := gd_of hf
      refine va_zald hx hb hK.1 (WW_one hR (f := 10) (i := 0) rfl) 0 2 rfl rfl g51 dX6_covers_60 ?_
      refine lv_if_eq (tgt := 68) hx hb dX6_covers_61 (by decide) (fun c52 => ?_) (fun c52 => ?_)
      · have hf := if_of_pos hf c52
        refine lv_aload_n hx hb dX6_covers_68 rfl (lv_at hl 4 rfl) ?_
        refine va_get (D := D) (ci := 7) (C := RX6) (T := TX6) (N := 22) hx hb hts iuX6 hown hK.1 (WW_one hR (f := 0) (i := 0) rfl) 0 rfl rfl 7 (by decide) (hts _ q_815) (fun _ h9 => h9) rfl dX6_covers_69 ?_
        refine lv_iload hx hb dX6_covers_72 (lv_at hl 0 rfl) ?_
        refine va_lald hx hb hK.1 (WW_one hR (f := 8) (i := 0) rfl) 0 1 rfl rfl g51 dX6_covers_74 ?_
        refine lv_ladd hx hb dX6_covers_75 ?_
        refine lv_topl (fun x53 hx53 => ?_)
        have hf := kst_eq hx53 hf
        refine lv_lstore (lv' := [(8, .long x53), (10, .int v10), (6, .long v6), (4, .long v4), (0, .ref (ad 0 0)), (1, .int v1), (2, .long v2)]) hx hb dX6_covers_76 hl (by decide) rfl (fun ls hl => ?_)
        obtain ⟨x54, hx54⟩ : ∃ y : Int32, y = v10 + 1 := ⟨_, rfl⟩
        have hf := kst_eq hx54 hf
        refine lv_iinc (v := x54) (lv' := [(10, .int x54), (8, .long x53), (6, .long v6), (4, .long v4), (0, .ref (ad 0 0)), (1, .int v1), (2, .long v2)]) hx hb dX6_covers_78 hl (k := 1) rfl (by rw [hx54]; rfl) (by decide) rfl (fun ls hl => ?_)
        refine lv_goto (tgt := 46) hx hb dX6_covers_81 (by decide) ?_
        exact ih _ _ _ σ x54 x53 v6 v4 v1 v2 hR hS (lv_sub hl [0, 1, 2, 3, 4, 5, 6] rfl) hf
      · have hf := if_of_neg hf c52
        refine lv_lconst (v := 0) hx hb dX6_covers_64 (by decide) ?_
        refine lv_goto (tgt := 75) hx hb dX6_covers_65 (by decide) ?_
        refine lv_ladd hx hb dX6_covers_75 ?_
        refine lv_topl (fun x55 hx55 => ?_)
        have hf := kst_eq hx55 hf
        refine lv_lstore (lv' := [(8, .long x55), (10, .int v10), (6, .long v6), (4, .long v4), (0, .ref (ad 0 0)), (1, .int v1), (2, .long v2)]) hx hb dX6_covers_76 hl (by decide) rfl (fun ls hl => ?_)
        obtain ⟨x56, hx56⟩ : ∃ y : Int32, y = v10 + 1 := ⟨_, rfl⟩
        have hf := kst_eq hx56 hf
        refine lv_iinc (v := x56) (lv' := [(10, .int x56), (8, .long x55), (6, .long v6), (4, .long v4), (0, .ref (ad 0 0)), (1, .int v1), (2, .long v2)]) hx hb dX6_covers_78 hl (k := 1) rfl (by rw [hx56]; rfl) (by decide) rfl (fun ls hl => ?_)
        refine lv_goto (tgt := 46) hx hb dX6_covers_81 (by decide) ?_
        exact ih _ _ _ σ x56 x55 v6 v4 v1 v2 hR hS (lv_sub hl [0, 1, 2, 3, 4, 5, 6] rfl) hf
def fX6_covers (σ : St) (a1 : Int32) (a2 : Int64) : Option (St) := gd (vin a1 5) (if a2 ≤ (gL σ 8 0 a1.toNatClampNeg) then kst (a2 - a2) (fun x3 => fX6_covers_L46 1000 (pL σ 8 0 a1.toNatClampNeg ((gL σ 8 0 a1.toNatClampNeg) - a2)) 0 0 x3 a2 a1 a2) else kst (gL σ 8 0 a1.toNatClampNeg) (fun x57 => kst (a2 - x57) (fun x58 => fX6_covers_L46 1000 (pL σ 8 0 a1.toNatClampNeg ((gL σ 8 0 a1.toNatClampNeg) - x57)) 0 0 x58 x57 a1 a2)))
set_option maxHeartbeats 4000000 in
set_option maxRecDepth 100000 in
theorem mX6_covers (l : Launch) (D : va_G) (dA : Nat → ClassId) (ad : Nat → Nat → Nat) (σ : St) (sz : Nat) (a1 : Int32) (a2 : Int64) (σ' : St) (hf : fX6_covers σ a1 a2 = some σ') : Met l yX6_covers (WSy yX6_covers cX6_covers 16 none) ({ frames := 0, cells := 0, slots := 0, locals := 0 } : Room) (va_Pc [.ref (ad 0 0), .int a1, .long a2] (fun U => U.heap.size = sz ∧ HM D dA (fun _ => True) ad σ U.heap ∧ KS D dA U)) (va_Qv (fun (_ : Unit) => True) (fun _ t => HM D dA (WA ad (cvM σ) sz) ad σ' t.heap) (WA ad (cvM σ) sz)) 0 0 (WA ad (cvM σ) sz) := by
  refine met_of (by decide) (Nat.le_of_ble_eq_true rfl) ?_
  intro p e s m below meth c ls hC hB hl
  obtain ⟨rfl, hR, hK⟩ := hB
  have hA : ∀ q : Nat, s.heap.size ≤ q → WA ad (cvM σ) s.heap.size q := fun q h => Or.inr h
  have hR := WW_fit (B := WA ad (cvM σ) s.heap.size) hR (fun f i h => WA_in h)
  have hS : va_S (WA ad (cvM σ) s.heap.size) s.heap s.heap [] := va_S.rf
  generalize WA ad (cvM σ) s.heap.size = A0 at hA hR hS ⊢
  have hC : CTX p s m _ meth c cX6_covers 16 RX6 none := hC
  obtain ⟨hx, hb, hml, hown, hts, hr, hlk⟩ := id hC
  have hl : lv_has ls 16 [(0, .ref (ad 0 0)), (1, .int a1), (2, .long a2)] := hl
  unfold fX6_covers at hf
  refine lv_aload_n hx hb dX6_covers_0 rfl (lv_at hl 0 rfl) ?_
  refine va_get (D := D) (ci := 7) (C := RX6) (T := TX6) (N := 22) hx hb hts iuX6 hown hK.1 (WW_one hR (f := 0) (i := 0) rfl) 0 rfl rfl 7 (by decide) (hts _ q_815) (fun _ h9 => h9) rfl dX6_covers_1 ?_
  refine lv_iload_n hx hb dX6_covers_4 rfl (lv_at hl 1 rfl) ?_
  obtain ⟨g1, hf⟩ := gd_of hf
  refine va_lald hx hb hK.1 (WW_one hR (f := 8) (i := 0) rfl) 0 1 rfl rfl g1 dX6_covers_5 ?_
  refine lv_lload_n hx hb dX6_covers_6 rfl (lv_at hl 2 rfl) ?_
  refine W.lcmp hx hb dX6_covers_7 ?_
  refine lv_if_ge (tgt := 20) hx hb dX6_covers_8 (by decide) (fun c20 => ?_) (fun c20 => ?_)
  · have c2 : a2 ≤ (gL σ 8 0 a1.toNatClampNeg) := (lg_cmp_ge _ _).mp c20
    have hf := if_of_pos hf c2
    refine lv_lload_n hx hb dX6_covers_20 rfl (lv_at hl 2 rfl) ?_
    refine lv_lstore (lv' := [(4, .long a2), (0, .ref (ad 0 0)), (1, .int a1), (2, .long a2)]) hx hb dX6_covers_21 hl (by decide) rfl (fun ls hl => ?_)
    refine lv_aload_n hx hb dX6_covers_23 rfl (lv_at hl 1 rfl) ?_
    refine va_get (D := D) (ci := 7) (C := RX6) (T := TX6) (N := 22) hx hb hts iuX6 hown hK.1 (WW_one hR (f := 0) (i := 0) rfl) 0 rfl rfl 7 (by decide) (hts _ q_815) (fun _ h9 => h9) rfl dX6_covers_24 ?_
    refine lv_iload_n hx hb dX6_covers_27 rfl (lv_at hl 2 rfl) ?_
    refine lv_dup2_11 hx hb dX6_covers_28 rfl rfl ?_
    refine va_lald hx hb hK.1 (WW_one hR (f := 8) (i := 0) rfl) 0 1 rfl rfl g1 dX6_covers_29 ?_
    refine lv_lload hx hb dX6_covers_30 (lv_at hl 0 rfl) ?_
    refine lv_lsub hx hb dX6_covers_32 ?_
    refine ww_last hx hb hK.1 hR hS 1 (f := 8) (j := 0) rfl rfl rfl g1 dX6_covers_33 (fun H locs hR hS => ?_)
    have hR := HM_row8 0 (a1.toNatClampNeg) ((gL σ 8 0 a1.toNatClampNeg) - a2) hR
    refine lv_lload_n hx hb dX6_covers_34 rfl (lv_at hl 3 rfl) ?_
    refine lv_lload hx hb dX6_covers_35 (lv_at hl 0 rfl) ?_
    refine lv_lsub hx hb dX6_covers_37 ?_
    refine lv_topl (fun x3 hx3 => ?_)
    have hf := kst_eq hx3 hf
    refine lv_lstore (lv' := [(6, .long x3), (4, .long a2), (0, .ref (ad 0 0)), (1, .int a1), (2, .long a2)]) hx hb dX6_covers_38 hl (by decide) rfl (fun ls hl => ?_)
    refine lv_lconst (v := 0) hx hb dX6_covers_40 (by decide) ?_
    refine lv_lstore (lv' := [(8, .long 0), (6, .long x3), (4, .long a2), (0, .ref (ad 0 0)), (1, .int a1), (2, .long a2)]) hx hb dX6_covers_41 hl (by decide) rfl (fun ls hl => ?_)
    refine lv_iconst (v := 0) hx hb dX6_covers_43 (by decide) ?_
    refine lv_istore (lv' := [(10, .int 0), (8, .long 0), (6, .long x3), (4, .long a2), (0, .ref (ad 0 0)), (1, .int a1), (2, .long a2)]) hx hb dX6_covers_44 hl (by decide) rfl (fun ls hl => ?_)
    exact wX6_covers_L46 hC hK hA 1000 _ _ _ (pL σ 8 0 a1.toNatClampNeg ((gL σ 8 0 a1.toNatClampNeg) - a2)) 0 0 x3 a2 a1 a2 hR hS (lv_sub hl [0, 1, 2, 3, 4, 5, 6] rfl) hf
  · have c2 : ¬ (a2 ≤ (gL σ 8 0 a1.toNatClampNeg)) := fun q => c20 ((lg_cmp_ge _ _).mpr q)
    have hf := if_of_neg hf c2
    refine lv_aload_n hx hb dX6_covers_11 rfl (lv_at hl 0 rfl) ?_
    refine va_get (D := D) (ci := 7) (C := RX6) (T := TX6) (N := 22) hx hb hts iuX6 hown hK.1 (WW_one hR (f := 0) (i := 0) rfl) 0 rfl rfl 7 (by decide) (hts _ q_815) (fun _ h9 => h9) rfl dX6_covers_12 ?_
    refine lv_iload_n hx hb dX6_covers_15 rfl (lv_at hl 1 rfl) ?_
    refine va_lald hx hb hK.1 (WW_one hR (f := 8) (i := 0) rfl) 0 1 rfl rfl g1 dX6_covers_16 ?_
    refine lv_goto (tgt := 21) hx hb dX6_covers_17 (by decide) ?_
    refine lv_topl (fun x57 hx57 => ?_)
    have hf := kst_eq hx57 hf
    refine lv_lstore (lv' := [(4, .long x57), (0, .ref (ad 0 0)), (1, .int a1), (2, .long a2)]) hx hb dX6_covers_21 hl (by decide) rfl (fun ls hl => ?_)
    refine lv_aload_n hx hb dX6_covers_23 rfl (lv_at hl 1 rfl) ?_
    refine va_get (D := D) (ci := 7) (C := RX6) (T := TX6) (N := 22) hx hb hts iuX6 hown hK.1 (WW_one hR (f := 0) (i := 0) rfl) 0 rfl rfl 7 (by decide) (hts _ q_815) (fun _ h9 => h9) rfl dX6_covers_24 ?_
    refine lv_iload_n hx hb dX6_covers_27 rfl (lv_at hl 2 rfl) ?_
    refine lv_dup2_11 hx hb dX6_covers_28 rfl rfl ?_
    refine va_lald hx hb hK.1 (WW_one hR (f := 8) (i := 0) rfl) 0 1 rfl rfl g1 dX6_covers_29 ?_
    refine lv_lload hx hb dX6_covers_30 (lv_at hl 0 rfl) ?_
    refine lv_lsub hx hb dX6_covers_32 ?_
    refine ww_last hx hb hK.1 hR hS 1 (f := 8) (j := 0) rfl rfl rfl g1 dX6_covers_33 (fun H locs hR hS => ?_)
    have hR := HM_row8 0 (a1.toNatClampNeg) ((gL σ 8 0 a1.toNatClampNeg) - x57) hR
    refine lv_lload_n hx hb dX6_covers_34 rfl (lv_at hl 3 rfl) ?_
    refine lv_lload hx hb dX6_covers_35 (lv_at hl 0 rfl) ?_
    refine lv_lsub hx hb dX6_covers_37 ?_
    refine lv_topl (fun x58 hx58 => ?_)
    have hf := kst_eq hx58 hf
    refine lv_lstore (lv' := [(6, .long x58), (4, .long x57), (0, .ref (ad 0 0)), (1, .int a1), (2, .long a2)]) hx hb dX6_covers_38 hl (by decide) rfl (fun ls hl => ?_)
    refine lv_lconst (v := 0) hx hb dX6_covers_40 (by decide) ?_
    refine lv_lstore (lv' := [(8, .long 0), (6, .long x58), (4, .long x57), (0, .ref (ad 0 0)), (1, .int a1), (2, .long a2)]) hx hb dX6_covers_41 hl (by decide) rfl (fun ls hl => ?_)
    refine lv_iconst (v := 0) hx hb dX6_covers_43 (by decide) ?_
    refine lv_istore (lv' := [(10, .int 0), (8, .long 0), (6, .long x58), (4, .long x57), (0, .ref (ad 0 0)), (1, .int a1), (2, .long a2)]) hx hb dX6_covers_44 hl (by decide) rfl (fun ls hl => ?_)
    exact wX6_covers_L46 hC hK hA 1000 _ _ _ (pL σ 8 0 a1.toNatClampNeg ((gL σ 8 0 a1.toNatClampNeg) - x57)) 0 0 x58 x57 a1 a2 hR hS (lv_sub hl [0, 1, 2, 3, 4, 5, 6] rfl) hf
def fX6_breaks_L9 : Nat → St → Int32 → Int32 → Option (St)
  | 0, _, _, _ => none
  | n + 1, σ, v2, v1 => if 3 ≤ v2 then gd (vin v1 5) (bd (fX6_collateralOf σ v1) (fun q4 => gd (vin (2 * v1) 10) (gd (vin ((2 * v1) + 1) 10) (bd (fX6_nets (pI (pI (pL σ 6 0 v1.toNatClampNeg ((gL σ 6 0 v1.toNatClampNeg) + q4)) 7 0 (2 * v1).toNatClampNeg 0) 7 0 ((2 * v1) + 1).toNatClampNeg 0) v1) (fun q7 => if 0 ≤ (gL q7.2 6 0 v1.toNatClampNeg) then some (q7.2) else bd (fX6_covers q7.2 v1 (-(gL q7.2 6 0 v1.toNatClampNeg))) (fun q9 => some (pL q9 6 0 v1.toNatClampNeg 0))))))) else gd (vin ((3 * v1) + v2) 15) (kst (gI σ 4 0 ((3 * v1) + v2).toNatClampNeg) (fun x11 => if ¬ x11 = 0 then bd (fX6_richest σ v1) (fun q13 => if q13 = (-1) then bd (fX6_worth σ v1 v2) (fun q15 => kst (v2 + 1) (fun x16 => fX6_breaks_L9 n (pI (pL σ 5 0 ((3 * v1) + v2).toNatClampNeg ((gL σ 5 0 ((3 * v1) + v2).toNatClampNeg) - q15)) 4 0 ((3 * v1) + v2).toNatClampNeg 0) x16 v1)) else if x11 ≤ 0 then if x11 ≤ 0 then if x11 ≤ 0 then gd (vin v2 3) (bd (fX6_trade σ v1 q13 v2 (-x11) (gI σ 1 0 v2.toNatClampNeg)) (fun q21 => kst (v2 + 1) (fun x22 => fX6_breaks_L9 n q21 x22 v1))) else gd (vin v2 3) (bd (fX6_trade σ v1 q13 v2 x11 (gI σ 1 0 v2.toNatClampNeg)) (fun q24 => kst (v2 + 1) (fun x25 => fX6_breaks_L9 n q24 x25 v1))) else if x11 ≤ 0 then gd (vin v2 3) (bd (fX6_trade σ v1 v1 v2 (-x11) (gI σ 1 0 v2.toNatClampNeg)) (fun q28 => kst (v2 + 1) (fun x29 => fX6_breaks_L9 n q28 x29 v1))) else gd (vin v2 3) (bd (fX6_trade σ v1 v1 v2 x11 (gI σ 1 0 v2.toNatClampNeg)) (fun q31 => kst (v2 + 1) (fun x32 => fX6_breaks_L9 n q31 x32 v1))) else if x11 ≤ 0 then if x11 ≤ 0 then gd (vin v2 3) (bd (fX6_trade σ q13 q13 v2 (-x11) (gI σ 1 0 v2.toNatClampNeg)) (fun q36 => kst (v2 + 1) (fun x37 => fX6_breaks_L9 n q36 x37 v1))) else gd (vin v2 3) (bd (fX6_trade σ q13 q13 v2 x11 (gI σ 1 0 v2.toNatClampNeg)) (fun q39 => kst (v2 + 1) (fun x40 => fX6_breaks_L9 n q39 x40 v1))) else if x11 ≤ 0 then gd (vin v2 3) (bd (fX6_trade σ q13 v1 v2 (-x11) (gI σ 1 0 v2.toNatClampNeg)) (fun q43 => kst (v2 + 1) (fun x44 => fX6_breaks_L9 n q43 x44 v1))) else gd (vin v2 3) (bd (fX6_trade σ q13 v1 v2 x11 (gI σ 1 0 v2.toNatClampNeg)) (fun q46 => kst (v2 + 1) (fun x47 => fX6_breaks_L9 n q46 x47 v1)))) else bd (fX6_worth σ v1 v2) (fun q49 => kst (v2 + 1) (fun x50 => fX6_breaks_L9 n (pI (pL σ 5 0 ((3 * v1) + v2).toNatClampNeg ((gL σ 5 0 ((3 * v1) + v2).toNatClampNeg) - q49)) 4 0 ((3 * v1) + v2).toNatClampNeg 0) x50 v1))))
set_option maxHeartbeats 4000000 in
set_option maxRecDepth 100000 in
theorem wX6_breaks_L9 {p : Program} {l : Launch} {e : Env} {s : State} {m : MethodId} {args : Array Value} {below : List Frame} {meth : Method} {c : Code} {D : va_G} {dA : Nat → ClassId} {A0 : Nat → Prop} {ad : Nat → Nat → Nat} {σ' : St}  (hC : CTX p s m args meth c cX6_breaks 5 RX6 none) (hK : KS D dA s) (hA : ∀ q, s.heap.size ≤ q → A0 q) : ∀ (n : Nat) (H : Heap) (locs : List Loc) (ls : Array Slot) (σ : St) (v2 : Int32) (v1 : Int32), HM D dA A0 ad σ H → va_S A0 s.heap H locs → lv_has ls 5 [(2, .int v2), (0, .ref (ad 0 0)), (1, .int v1)] → fX6_breaks_L9 n σ v2 v1 = some σ' → W p l e ({ frames := 4, cells := 0, slots := 0, locals := 98 } : Room) s m args below meth c H locs 0 0 (MQ below (va_Qv (fun (_ : Unit) => True) (fun _ t => HM D dA A0 ad σ' t.heap) A0) args s 0 0 A0) (F0 m 9 ls []) := by
  obtain ⟨hx, hb, hml, hown, hts, hr, hlk⟩ := id hC
  intro n
  induction n with
  | zero =>
    intro H locs ls σ v2 v1 hR hS hl hf
    rw [fX6_breaks_L9.eq_1] at hf
    cases hf
  | succ n ih =>
    intro H locs ls σ v2 v1 hR hS hl hf
    rw [fX6_breaks_L9.eq_2] at hf
    refine lv_iload_n hx hb dX6_breaks_9 rfl (lv_at hl 0 rfl) ?_
    refine lv_iconst (v := 3) hx hb dX6_breaks_10 (by decide) ?_
    refine lv_icmp_ge (tgt := 126) hx hb dX6_breaks_11 (by decide) (fun c2 => ?_) (fun c2 => ?_)
    · have hf := if_of_pos hf c2
      refine lv_aload_n hx hb dX6_breaks_126 rfl (lv_at hl 1 rfl) ?_
      refine va_get (D := D) (ci := 7) (C := RX6) (T := TX6) (N := 22) hx hb hts iuX6 hown hK.1 (WW_one hR (f := 0) (i := 0) rfl) 0 rfl rfl 5 (by decide) (hts _ q_813) (fun _ h9 => h9) rfl dX6_breaks_127 ?_
      refine lv_iload_n hx hb dX6_breaks_130 rfl (lv_at hl 2 rfl) ?_
      refine lv_dup2_11 hx hb dX6_breaks_131 rfl rfl ?_
      obtain ⟨g3, hf⟩ := gd_of hf
      refine va_lald hx hb hK.1 (WW_one hR (f := 6) (i := 0) rfl) 0 1 rfl rfl g3 dX6_breaks_132 ?_
      refine lv_aload_n hx hb dX6_breaks_133 rfl (lv_at hl 1 rfl) ?_
      refine lv_iload_n hx hb dX6_breaks_134 rfl (lv_at hl 2 rfl) ?_
      obtain ⟨q4, hcq4, hf⟩ := bd_of hf
      refine kc_l (va_runV (As := [.int v1]) (rest := [.long (gL σ 6 0 v1.toNatClampNeg), .int v1, .ref (ad 6 0)]) ⟨hx, hb, hml, hown, hts⟩ (mX6_collateralOf l D dA ad σ _ v1 q4 hcq4) (cwV 1 hts gX6_103 rfl rfl rfl (by decide +kernel) ⟨Nat.le_of_ble_eq_true rfl, Nat.le_of_ble_eq_true rfl⟩) (preV_of hR hK (f := 0) (i := 0) rfl rfl rfl _) rfl rfl hl.1 rfl (lv_room (Nat.le_of_ble_eq_true rfl)) dX6_breaks_135 ⟨Nat.zero_le _, Nat.zero_le _⟩) hA hR hS (fun H locs hR hS => ?_)
      refine lv_ladd hx hb dX6_breaks_138 ?_
      refine ww_last hx hb hK.1 hR hS 1 (f := 6) (j := 0) rfl rfl rfl g3 dX6_breaks_139 (fun H locs hR hS => ?_)
      have hR := HM_row6 0 (v1.toNatClampNeg) ((gL σ 6 0 v1.toNatClampNeg) + q4) hR
      refine lv_aload_n hx hb dX6_breaks_140 rfl (lv_at hl 1 rfl) ?_
      refine va_get (D := D) (ci := 7) (C := RX6) (T := TX6) (N := 22) hx hb hts iuX6 hown hK.1 (WW_one hR (f := 0) (i := 0) rfl) 0 rfl rfl 6 (by decide) (hts _ q_814) (fun _ h9 => h9) rfl dX6_breaks_141 ?_
      refine lv_iconst (v := 2) hx hb dX6_breaks_144 (by decide) ?_
      refine lv_iload_n hx hb dX6_breaks_145 rfl (lv_at hl 2 rfl) ?_
      refine lv_imul hx hb dX6_breaks_146 ?_
      refine lv_iconst (v := 0) hx hb dX6_breaks_147 (by decide) ?_
      obtain ⟨g5, hf⟩ := gd_of hf
      refine ww_iast hx hb hK.1 hR hS 0 (f := 7) (j := 0) rfl rfl rfl g5 dX6_breaks_148 (fun H locs hR hS => ?_)
      have hR := HM_row7 0 ((2 * v1).toNatClampNeg) 0 hR
      refine lv_aload_n hx hb dX6_breaks_149 rfl (lv_at hl 1 rfl) ?_
      refine va_get (D := D) (ci := 7) (C := RX6) (T := TX6) (N := 22) hx hb hts iuX6 hown hK.1 (WW_one hR (f := 0) (i := 0) rfl) 0 rfl rfl 6 (by decide) (hts _ q_814) (fun _ h9 => h9) rfl dX6_breaks_150 ?_
      refine lv_iconst (v := 2) hx hb dX6_breaks_153 (by decide) ?_
      refine lv_iload_n hx hb dX6_breaks_154 rfl (lv_at hl 2 rfl) ?_
      refine lv_imul hx hb dX6_breaks_155 ?_
      refine lv_iconst (v := 1) hx hb dX6_breaks_156 (by decide) ?_
      refine lv_iadd hx hb dX6_breaks_157 ?_
      refine lv_iconst (v := 0) hx hb dX6_breaks_158 (by decide) ?_
      obtain ⟨g6, hf⟩ := gd_of hf
      refine ww_iast hx hb hK.1 hR hS 0 (f := 7) (j := 0) rfl rfl rfl g6 dX6_breaks_159 (fun H locs hR hS => ?_)
      have hR := HM_row7 0 (((2 * v1) + 1).toNatClampNeg) 0 hR
      refine lv_aload_n hx hb dX6_breaks_160 rfl (lv_at hl 1 rfl) ?_
      refine lv_iload_n hx hb dX6_breaks_161 rfl (lv_at hl 2 rfl) ?_
      obtain ⟨q7, hcq7, hf⟩ := bd_of hf
      refine kc_l (va_runV (As := [.int v1]) (rest := []) ⟨hx, hb, hml, hown, hts⟩ (mX6_nets l D dA ad (pI (pI (pL σ 6 0 v1.toNatClampNeg ((gL σ 6 0 v1.toNatClampNeg) + q4)) 7 0 (2 * v1).toNatClampNeg 0) 7 0 ((2 * v1) + 1).toNatClampNeg 0) _ v1 q7.1 q7.2 hcq7) (cwV 1 hts gX6_153 rfl rfl rfl (by decide +kernel) ⟨Nat.le_of_ble_eq_true rfl, Nat.le_of_ble_eq_true rfl⟩) (preV_of hR hK (f := 0) (i := 0) rfl rfl rfl _) rfl rfl hl.1 rfl (lv_room (Nat.le_of_ble_eq_true rfl)) dX6_breaks_162 ⟨Nat.zero_le _, Nat.zero_le _⟩) hA hR hS (fun H locs hR hS => ?_)
      refine lv_pop2_2 hx hb dX6_breaks_165 rfl ?_
      refine lv_aload_n hx hb dX6_breaks_166 rfl (lv_at hl 1 rfl) ?_
      refine va_get (D := D) (ci := 7) (C := RX6) (T := TX6) (N := 22) hx hb hts iuX6 hown hK.1 (WW_one hR (f := 0) (i := 0) rfl) 0 rfl rfl 5 (by decide) (hts _ q_813) (fun _ h9 => h9) rfl dX6_breaks_167 ?_
      refine lv_iload_n hx hb dX6_breaks_170 rfl (lv_at hl 2 rfl) ?_
      refine va_lald hx hb hK.1 (WW_one hR (f := 6) (i := 0) rfl) 0 1 rfl rfl g3 dX6_breaks_171 ?_
      refine lv_lconst (v := 0) hx hb dX6_breaks_172 (by decide) ?_
      refine W.lcmp hx hb dX6_breaks_173 ?_
      refine lv_if_ge (tgt := 196) hx hb dX6_breaks_174 (by decide) (fun c80 => ?_) (fun c80 => ?_)
      · have c8 : 0 ≤ (gL q7.2 6 0 v1.toNatClampNeg) := (lg_cmp_ge _ _).mp c80
        have hf := if_of_pos hf c8
        cases hf
        exact ret_v hC hR hS dX6_breaks_196
      · have c8 : ¬ (0 ≤ (gL q7.2 6 0 v1.toNatClampNeg)) := fun q => c80 ((lg_cmp_ge _ _).mpr q)
        have hf := if_of_neg hf c8
        refine lv_aload_n hx hb dX6_breaks_177 rfl (lv_at hl 1 rfl) ?_
        refine lv_iload_n hx hb dX6_breaks_178 rfl (lv_at hl 2 rfl) ?_
        refine lv_aload_n hx hb dX6_breaks_179 rfl (lv_at hl 1 rfl) ?_
        refine va_get (D := D) (ci := 7) (C := RX6) (T := TX6) (N := 22) hx hb hts iuX6 hown hK.1 (WW_one hR (f := 0) (i := 0) rfl) 0 rfl rfl 5 (by decide) (hts _ q_813) (fun _ h9 => h9) rfl dX6_breaks_180 ?_
        refine lv_iload_n hx hb dX6_breaks_183 rfl (lv_at hl 2 rfl) ?_
        refine va_lald hx hb hK.1 (WW_one hR (f := 6) (i := 0) rfl) 0 1 rfl rfl g3 dX6_breaks_184 ?_
        refine lv_lneg hx hb dX6_breaks_185 ?_
        obtain ⟨q9, hcq9, hf⟩ := bd_of hf
        refine kc_v (va_runV (As := [.int v1, .long (-(gL q7.2 6 0 v1.toNatClampNeg))]) (rest := []) ⟨hx, hb, hml, hown, hts⟩ (mX6_covers l D dA ad q7.2 _ v1 (-(gL q7.2 6 0 v1.toNatClampNeg)) q9 hcq9) (cwV 2 hts gX6_156 rfl rfl rfl (by decide +kernel) ⟨Nat.le_of_ble_eq_true rfl, Nat.le_of_ble_eq_true rfl⟩) (preV_of hR hK (f := 0) (i := 0) rfl rfl rfl _) rfl rfl hl.1 rfl (lv_room (Nat.le_of_ble_eq_true rfl)) dX6_breaks_186 ⟨Nat.zero_le _, Nat.zero_le _⟩) hA hR hS (fun H locs hR hS => ?_)
        refine lv_aload_n hx hb dX6_breaks_189 rfl (lv_at hl 1 rfl) ?_
        refine va_get (D := D) (ci := 7) (C := RX6) (T := TX6) (N := 22) hx hb hts iuX6 hown hK.1 (WW_one hR (f := 0) (i := 0) rfl) 0 rfl rfl 5 (by decide) (hts _ q_813) (fun _ h9 => h9) rfl dX6_breaks_190 ?_
        refine lv_iload_n hx hb dX6_breaks_193 rfl (lv_at hl 2 rfl) ?_
        refine lv_lconst (v := 0) hx hb dX6_breaks_194 (by decide) ?_
        refine ww_last hx hb hK.1 hR hS 1 (f := 6) (j := 0) rfl rfl rfl g3 dX6_breaks_195 (fun H locs hR hS => ?_)
        have hR := HM_row6 0 (v1.toNatClampNeg) 0 hR
        cases hf
        exact ret_v hC hR hS dX6_breaks_196
    · have hf := if_of_neg hf c2
      refine lv_aload_n hx hb dX6_breaks_14 rfl (lv_at hl 1 rfl) ?_
      refine va_get (D := D) (ci := 7) (C := RX6) (T := TX6) (N := 22) hx hb hts iuX6 hown hK.1 (WW_one hR (f := 0) (i := 0) rfl) 0 rfl rfl 3 (by decide) (hts _ q_811) (fun _ h9 => h9) rfl dX6_breaks_15 ?_
      refine lv_iconst (v := 3) hx hb dX6_breaks_18 (by decide) ?_
      refine lv_iload_n hx hb dX6_breaks_19 rfl (lv_at hl 2 rfl) ?_
      refine lv_imul hx hb dX6_breaks_20 ?_
      refine lv_iload_n hx hb dX6_breaks_21 rfl (lv_at hl 0 rfl) ?_
      refine lv_iadd hx hb dX6_breaks_22 ?_
      obtain ⟨g10, hf⟩ := gd_of hf
      refine va_iald hx hb hK.1 (WW_one hR (f := 4) (i := 0) rfl) 0 0 rfl rfl g10 dX6_breaks_23 ?_
      refine lv_topi (fun x11 hx11 => ?_)
      have hf := kst_eq hx11 hf
      refine lv_istore_n (lv' := [(3, .int x11), (2, .int v2), (0, .ref (ad 0 0)), (1, .int v1)]) hx hb dX6_breaks_24 rfl hl (by decide) rfl (fun ls hl => ?_)
      refine lv_iload_n hx hb dX6_breaks_25 rfl (lv_at hl 0 rfl) ?_
      refine lv_if_ne (tgt := 33) hx hb dX6_breaks_26 (by decide) (fun c12 => ?_) (fun c12 => ?_)
      · have hf := if_of_pos hf c12
        refine lv_aload_n hx hb dX6_breaks_33 rfl (lv_at hl 2 rfl) ?_
        refine lv_iload_n hx hb dX6_breaks_34 rfl (lv_at hl 3 rfl) ?_
        obtain ⟨q13, hcq13, hf⟩ := bd_of hf
        refine kc_i (va_runV (As := [.int v1]) (rest := []) ⟨hx, hb, hml, hown, hts⟩ (mX6_richest l D dA ad σ _ v1 q13 hcq13) (cwV 1 hts gX6_150 rfl rfl rfl (by decide +kernel) ⟨Nat.le_of_ble_eq_true rfl, Nat.le_of_ble_eq_true rfl⟩) (preV_of hR hK (f := 0) (i := 0) rfl rfl rfl _) rfl rfl hl.1 rfl (lv_room (Nat.le_of_ble_eq_true rfl)) dX6_breaks_35 ⟨Nat.zero_le _, Nat.zero_le _⟩) hA hR hS (fun H locs hR hS => ?_)
        refine lv_istore (lv' := [(4, .int q13), (3, .int x11), (2, .int v2), (0, .ref (ad 0 0)), (1, .int v1)]) hx hb dX6_breaks_38 hl (by decide) rfl (fun ls hl => ?_)
        refine lv_iload hx hb dX6_breaks_40 (lv_at hl 0 rfl) ?_
        refine lv_iconst (v := (-1)) hx hb dX6_breaks_42 (by decide) ?_
        refine lv_icmp_eq (tgt := 90) hx hb dX6_breaks_43 (by decide) (fun c14 => ?_) (fun c14 => ?_)
        · have hf := if_of_pos hf c14
          refine lv_aload_n hx hb dX6_breaks_90 rfl (lv_at hl 3 rfl) ?_
          refine va_get (D := D) (ci := 7) (C := RX6) (T := TX6) (N := 22) hx hb hts iuX6 hown hK.1 (WW_one hR (f := 0) (i := 0) rfl) 0 rfl rfl 4 (by decide) (hts _ q_812) (fun _ h9 => h9) rfl dX6_breaks_91 ?_
          refine lv_iconst (v := 3) hx hb dX6_breaks_94 (by decide) ?_
          refine lv_iload_n hx hb dX6_breaks_95 rfl (lv_at hl 4 rfl) ?_
          refine lv_imul hx hb dX6_breaks_96 ?_
          refine lv_iload_n hx hb dX6_breaks_97 rfl (lv_at hl 2 rfl) ?_
          refine lv_iadd hx hb dX6_breaks_98 ?_
          refine lv_dup2_11 hx hb dX6_breaks_99 rfl rfl ?_
          refine va_lald hx hb hK.1 (WW_one hR (f := 5) (i := 0) rfl) 0 1 rfl rfl g10 dX6_breaks_100 ?_
          refine lv_aload_n hx hb dX6_breaks_101 rfl (lv_at hl 3 rfl) ?_
          refine lv_iload_n hx hb dX6_breaks_102 rfl (lv_at hl 4 rfl) ?_
          refine lv_iload_n hx hb dX6_breaks_103 rfl (lv_at hl 2 rfl) ?_
          obtain ⟨q15, hcq15, hf⟩ := bd_of hf
          refine kc_l (va_runV (As := [.int v1, .int v2]) (rest := [.long (gL σ 5 0 ((3 * v1) + v2).toNatClampNeg), .int ((3 * v1) + v2), .ref (ad 5 0)]) ⟨hx, hb, hml, hown, hts⟩ (mX6_worth l D dA ad σ _ v1 v2 q15 hcq15) (cwV 2 hts gX6_86 rfl rfl rfl (by decide +kernel) ⟨Nat.le_of_ble_eq_true rfl, Nat.le_of_ble_eq_true rfl⟩) (preV_of hR hK (f := 0) (i := 0) rfl rfl rfl _) rfl rfl hl.1 rfl (lv_room (Nat.le_of_ble_eq_true rfl)) dX6_breaks_104 ⟨Nat.zero_le _, Nat.zero_le _⟩) hA hR hS (fun H locs hR hS => ?_)
          refine lv_lsub hx hb dX6_breaks_107 ?_
          refine ww_last hx hb hK.1 hR hS 1 (f := 5) (j := 0) rfl rfl rfl g10 dX6_breaks_108 (fun H locs hR hS => ?_)
          have hR := HM_row5 0 (((3 * v1) + v2).toNatClampNeg) ((gL σ 5 0 ((3 * v1) + v2).toNatClampNeg) - q15) hR
          refine lv_aload_n hx hb dX6_breaks_109 rfl (lv_at hl 3 rfl) ?_
          refine va_get (D := D) (ci := 7) (C := RX6) (T := TX6) (N := 22) hx hb hts iuX6 hown hK.1 (WW_one hR (f := 0) (i := 0) rfl) 0 rfl rfl 3 (by decide) (hts _ q_811) (fun _ h9 => h9) rfl dX6_breaks_110 ?_
          refine lv_iconst (v := 3) hx hb dX6_breaks_113 (by decide) ?_
          refine lv_iload_n hx hb dX6_breaks_114 rfl (lv_at hl 4 rfl) ?_
          refine lv_imul hx hb dX6_breaks_115 ?_
          refine lv_iload_n hx hb dX6_breaks_116 rfl (lv_at hl 2 rfl) ?_
          refine lv_iadd hx hb dX6_breaks_117 ?_
          refine lv_iconst (v := 0) hx hb dX6_breaks_118 (by decide) ?_
          refine ww_iast hx hb hK.1 hR hS 0 (f := 4) (j := 0) rfl rfl rfl g10 dX6_breaks_119 (fun H locs hR hS => ?_)
          have hR := HM_row4 0 (((3 * v1) + v2).toNatClampNeg) 0 hR
          obtain ⟨x16, hx16⟩ : ∃ y : Int32, y = v2 + 1 := ⟨_, rfl⟩
          have hf := kst_eq hx16 hf
          refine lv_iinc (v := x16) (lv' := [(2, .int x16), (4, .int q13), (3, .int x11), (0, .ref (ad 0 0)), (1, .int v1)]) hx hb dX6_breaks_120 hl (k := 2) rfl (by rw [hx16]; rfl) (by decide) rfl (fun ls hl => ?_)
          refine lv_goto (tgt := 9) hx hb dX6_breaks_123 (by decide) ?_
          exact ih _ _ _ (pI (pL σ 5 0 ((3 * v1) + v2).toNatClampNeg ((gL σ 5 0 ((3 * v1) + v2).toNatClampNeg) - q15)) 4 0 ((3 * v1) + v2).toNatClampNeg 0) x16 v1 hR hS (lv_sub hl [0, 3, 4] rfl) hf
        · have hf := if_of_neg hf c14
          refine lv_aload_n hx hb dX6_breaks_46 rfl (lv_at hl 3 rfl) ?_
          refine lv_iload_n hx hb dX6_breaks_47 rfl (lv_at hl 1 rfl) ?_
          refine lv_if_le (tgt := 56) hx hb dX6_breaks_48 (by decide) (fun c17 => ?_) (fun c17 => ?_)
          · have hf := if_of_pos hf c17
            refine lv_iload_n hx hb dX6_breaks_56 rfl (lv_at hl 4 rfl) ?_
            refine lv_iload_n hx hb dX6_breaks_57 rfl (lv_at hl 1 rfl) ?_
            refine lv_if_le (tgt := 65) hx hb dX6_breaks_58 (by decide) (fun c18 => ?_) (fun c18 => ?_)
            · have hf := if_of_pos hf c18
              refine lv_iload hx hb dX6_breaks_65 (lv_at hl 0 rfl) ?_
              refine lv_iload_n hx hb dX6_breaks_67 rfl (lv_at hl 2 rfl) ?_
              refine lv_iload_n hx hb dX6_breaks_68 rfl (lv_at hl 1 rfl) ?_
              refine lv_if_le (tgt := 76) hx hb dX6_breaks_69 (by decide) (fun c19 => ?_) (fun c19 => ?_)
              · have hf := if_of_pos hf c19
                refine lv_iload_n hx hb dX6_breaks_76 rfl (lv_at hl 1 rfl) ?_
                refine lv_ineg hx hb dX6_breaks_77 ?_
                refine lv_aload_n hx hb dX6_breaks_78 rfl (lv_at hl 3 rfl) ?_
                refine va_get (D := D) (ci := 7) (C := RX6) (T := TX6) (N := 22) hx hb hts iuX6 hown hK.1 (WW_one hR (f := 0) (i := 0) rfl) 0 rfl rfl 0 (by decide) (hts _ q_808) (fun _ h9 => h9) rfl dX6_breaks_79 ?_
                refine lv_iload_n hx hb dX6_breaks_82 rfl (lv_at hl 2 rfl) ?_
                obtain ⟨g20, hf⟩ := gd_of hf
                refine va_iald hx hb hK.1 (WW_one hR (f := 1) (i := 0) rfl) 0 0 rfl rfl g20 dX6_breaks_83 ?_
                obtain ⟨q21, hcq21, hf⟩ := bd_of hf
                refine kc_v (va_runV (As := [.int v1, .int q13, .int v2, .int (-x11), .int (gI σ 1 0 v2.toNatClampNeg)]) (rest := []) ⟨hx, hb, hml, hown, hts⟩ (mX6_trade l D dA ad σ _ v1 q13 v2 (-x11) (gI σ 1 0 v2.toNatClampNeg) q21 hcq21) (cwV 5 hts gX6_127 rfl rfl rfl (by decide +kernel) ⟨Nat.le_of_ble_eq_true rfl, Nat.le_of_ble_eq_true rfl⟩) (preV_of hR hK (f := 0) (i := 0) rfl rfl rfl _) rfl rfl hl.1 rfl (lv_room (Nat.le_of_ble_eq_true rfl)) dX6_breaks_84 ⟨Nat.zero_le _, Nat.zero_le _⟩) hA hR hS (fun H locs hR hS => ?_)
                refine lv_goto (tgt := 120) hx hb dX6_breaks_87 (by decide) ?_
                obtain ⟨x22, hx22⟩ : ∃ y : Int32, y = v2 + 1 := ⟨_, rfl⟩
                have hf := kst_eq hx22 hf
                refine lv_iinc (v := x22) (lv' := [(2, .int x22), (4, .int q13), (3, .int x11), (0, .ref (ad 0 0)), (1, .int v1)]) hx hb dX6_breaks_120 hl (k := 2) rfl (by rw [hx22]; rfl) (by decide) rfl (fun ls hl => ?_)
                refine lv_goto (tgt := 9) hx hb dX6_breaks_123 (by decide) ?_
                exact ih _ _ _ q21 x22 v1 hR hS (lv_sub hl [0, 3, 4] rfl) hf
              · have hf := if_of_neg hf c19
                refine lv_iload_n hx hb dX6_breaks_72 rfl (lv_at hl 1 rfl) ?_
                refine lv_goto (tgt := 78) hx hb dX6_breaks_73 (by decide) ?_
                refine lv_aload_n hx hb dX6_breaks_78 rfl (lv_at hl 3 rfl) ?_
                refine va_get (D := D) (ci := 7) (C := RX6) (T := TX6) (N := 22) hx hb hts iuX6 hown hK.1 (WW_one hR (f := 0) (i := 0) rfl) 0 rfl rfl 0 (by decide) (hts _ q_808) (fun _ h9 => h9) rfl dX6_breaks_79 ?_
                refine lv_iload_n hx hb dX6_breaks_82 rfl (lv_at hl 2 rfl) ?_
                obtain ⟨g23, hf⟩ := gd_of hf
                refine va_iald hx hb hK.1 (WW_one hR (f := 1) (i := 0) rfl) 0 0 rfl rfl g23 dX6_breaks_83 ?_
                obtain ⟨q24, hcq24, hf⟩ := bd_of hf
                refine kc_v (va_runV (As := [.int v1, .int q13, .int v2, .int x11, .int (gI σ 1 0 v2.toNatClampNeg)]) (rest := []) ⟨hx, hb, hml, hown, hts⟩ (mX6_trade l D dA ad σ _ v1 q13 v2 x11 (gI σ 1 0 v2.toNatClampNeg) q24 hcq24) (cwV 5 hts gX6_127 rfl rfl rfl (by decide +kernel) ⟨Nat.le_of_ble_eq_true rfl, Nat.le_of_ble_eq_true rfl⟩) (preV_of hR hK (f := 0) (i := 0) rfl rfl rfl _) rfl rfl hl.1 rfl (lv_room (Nat.le_of_ble_eq_true rfl)) dX6_breaks_84 ⟨Nat.zero_le _, Nat.zero_le _⟩) hA hR hS (fun H locs hR hS => ?_)
                refine lv_goto (tgt := 120) hx hb dX6_breaks_87 (by decide) ?_
                obtain ⟨x25, hx25⟩ : ∃ y : Int32, y = v2 + 1 := ⟨_, rfl⟩
                have hf := kst_eq hx25 hf
                refine lv_iinc (v := x25) (lv' := [(2, .int x25), (4, .int q13), (3, .int x11), (0, .ref (ad 0 0)), (1, .int v1)]) hx hb dX6_breaks_120 hl (k := 2) rfl (by rw [hx25]; rfl) (by decide) rfl (fun ls hl => ?_)
                refine lv_goto (tgt := 9) hx hb dX6_breaks_123 (by decide) ?_
                exact ih _ _ _ q24 x25 v1 hR hS (lv_sub hl [0, 3, 4] rfl) hf
            · have hf := if_of_neg hf c18
              refine lv_iload_n hx hb dX6_breaks_61 rfl (lv_at hl 4 rfl) ?_
              refine lv_goto (tgt := 67) hx hb dX6_breaks_62 (by decide) ?_
              refine lv_iload_n hx hb dX6_breaks_67 rfl (lv_at hl 2 rfl) ?_
              refine lv_iload_n hx hb dX6_breaks_68 rfl (lv_at hl 1 rfl) ?_
              refine lv_if_le (tgt := 76) hx hb dX6_breaks_69 (by decide) (fun c26 => ?_) (fun c26 => ?_)
              · have hf := if_of_pos hf c26
                refine lv_iload_n hx hb dX6_breaks_76 rfl (lv_at hl 1 rfl) ?_
                refine lv_ineg hx hb dX6_breaks_77 ?_
                refine lv_aload_n hx hb dX6_breaks_78 rfl (lv_at hl 3 rfl) ?_
                refine va_get (D := D) (ci := 7) (C := RX6) (T := TX6) (N := 22) hx hb hts iuX6 hown hK.1 (WW_one hR (f := 0) (i := 0) rfl) 0 rfl rfl 0 (by decide) (hts _ q_808) (fun _ h9 => h9) rfl dX6_breaks_79 ?_
                refine lv_iload_n hx hb dX6_breaks_82 rfl (lv_at hl 2 rfl) ?_
                obtain ⟨g27, hf⟩ := gd_of hf
                refine va_iald hx hb hK.1 (WW_one hR (f := 1) (i := 0) rfl) 0 0 rfl rfl g27 dX6_breaks_83 ?_
                obtain ⟨q28, hcq28, hf⟩ := bd_of hf
                refine kc_v (va_runV (As := [.int v1, .int v1, .int v2, .int (-x11), .int (gI σ 1 0 v2.toNatClampNeg)]) (rest := []) ⟨hx, hb, hml, hown, hts⟩ (mX6_trade l D dA ad σ _ v1 v1 v2 (-x11) (gI σ 1 0 v2.toNatClampNeg) q28 hcq28) (cwV 5 hts gX6_127 rfl rfl rfl (by decide +kernel) ⟨Nat.le_of_ble_eq_true rfl, Nat.le_of_ble_eq_true rfl⟩) (preV_of hR hK (f := 0) (i := 0) rfl rfl rfl _) rfl rfl hl.1 rfl (lv_room (Nat.le_of_ble_eq_true rfl)) dX6_breaks_84 ⟨Nat.zero_le _, Nat.zero_le _⟩) hA hR hS (fun H locs hR hS => ?_)
                refine lv_goto (tgt := 120) hx hb dX6_breaks_87 (by decide) ?_
                obtain ⟨x29, hx29⟩ : ∃ y : Int32, y = v2 + 1 := ⟨_, rfl⟩
                have hf := kst_eq hx29 hf
                refine lv_iinc (v := x29) (lv' := [(2, .int x29), (4, .int q13), (3, .int x11), (0, .ref (ad 0 0)), (1, .int v1)]) hx hb dX6_breaks_120 hl (k := 2) rfl (by rw [hx29]; rfl) (by decide) rfl (fun ls hl => ?_)
                refine lv_goto (tgt := 9) hx hb dX6_breaks_123 (by decide) ?_
                exact ih _ _ _ q28 x29 v1 hR hS (lv_sub hl [0, 3, 4] rfl) hf
              · have hf := if_of_neg hf c26
                refine lv_iload_n hx hb dX6_breaks_72 rfl (lv_at hl 1 rfl) ?_
                refine lv_goto (tgt := 78) hx hb dX6_breaks_73 (by decide) ?_
                refine lv_aload_n hx hb dX6_breaks_78 rfl (lv_at hl 3 rfl) ?_
                refine va_get (D := D) (ci := 7) (C := RX6) (T := TX6) (N := 22) hx hb hts iuX6 hown hK.1 (WW_one hR (f := 0) (i := 0) rfl) 0 rfl rfl 0 (by decide) (hts _ q_808) (fun _ h9 => h9) rfl dX6_breaks_79 ?_
                refine lv_iload_n hx hb dX6_breaks_82 rfl (lv_at hl 2 rfl) ?_
                obtain ⟨g30, hf⟩ := gd_of hf
                refine va_iald hx hb hK.1 (WW_one hR (f := 1) (i := 0) rfl) 0 0 rfl rfl g30 dX6_breaks_83 ?_
                obtain ⟨q31, hcq31, hf⟩ := bd_of hf
                refine kc_v (va_runV (As := [.int v1, .int v1, .int v2, .int x11, .int (gI σ 1 0 v2.toNatClampNeg)]) (rest := []) ⟨hx, hb, hml, hown, hts⟩ (mX6_trade l D dA ad σ _ v1 v1 v2 x11 (gI σ 1 0 v2.toNatClampNeg) q31 hcq31) (cwV 5 hts gX6_127 rfl rfl rfl (by decide +kernel) ⟨Nat.le_of_ble_eq_true rfl, Nat.le_of_ble_eq_true rfl⟩) (preV_of hR hK (f := 0) (i := 0) rfl rfl rfl _) rfl rfl hl.1 rfl (lv_room (Nat.le_of_ble_eq_true rfl)) dX6_breaks_84 ⟨Nat.zero_le _, Nat.zero_le _⟩) hA hR hS (fun H locs hR hS => ?_)
                refine lv_goto (tgt := 120) hx hb dX6_breaks_87 (by decide) ?_
                obtain ⟨x32, hx32⟩ : ∃ y : Int32, y = v2 + 1 := ⟨_, rfl⟩
                have hf := kst_eq hx32 hf
                refine lv_iinc (v := x32) (lv' := [(2, .int x32), (4, .int q13), (3, .int x11), (0, .ref (ad 0 0)), (1, .int v1)]) hx hb dX6_breaks_120 hl (k := 2) rfl (by rw [hx32]; rfl) (by decide) rfl (fun ls hl => ?_)
                refine lv_goto (tgt := 9) hx hb dX6_breaks_123 (by decide) ?_
                exact ih _ _ _ q31 x32 v1 hR hS (lv_sub hl [0, 3, 4] rfl) hf
          · have hf := if_of_neg hf c17
            refine lv_iload hx hb dX6_breaks_51 (lv_at hl 0 rfl) ?_
            refine lv_goto (tgt := 57) hx hb dX6_breaks_53 (by decide) ?_
            refine lv_iload_n hx hb dX6_breaks_57 rfl (lv_at hl 1 rfl) ?_
            refine lv_if_le (tgt := 65) hx hb dX6_breaks_58 (by decide) (fun c33 => ?_) (fun c33 => ?_)
            · have hf := if_of_pos hf c33
              refine lv_iload hx hb dX6_breaks_65 (lv_at hl 0 rfl) ?_
              refine lv_iload_n hx hb dX6_breaks_67 rfl (lv_at hl 2 rfl) ?_
              refine lv_iload_n hx hb dX6_breaks_68 rfl (lv_at hl 1 rfl) ?_
              refine lv_if_le (tgt := 76) hx hb dX6_breaks_69 (by decide) (fun c34 => ?_) (fun c34 => ?_)
              · have hf := if_of_pos hf c34
                refine lv_iload_n hx hb dX6_breaks_76 rfl (lv_at hl 1 rfl) ?_
                refine lv_ineg hx hb dX6_breaks_77 ?_
                refine lv_aload_n hx hb dX6_breaks_78 rfl (lv_at hl 3 rfl) ?_
                refine va_get (D := D) (ci := 7) (C := RX6) (T := TX6) (N := 22) hx hb hts iuX6 hown hK.1 (WW_one hR (f := 0) (i := 0) rfl) 0 rfl rfl 0 (by decide) (hts _ q_808) (fun _ h9 => h9) rfl dX6_breaks_79 ?_
                refine lv_iload_n hx hb dX6_breaks_82 rfl (lv_at hl 2 rfl) ?_
                obtain ⟨g35, hf⟩ := gd_of hf
                refine va_iald hx hb hK.1 (WW_one hR (f := 1) (i := 0) rfl) 0 0 rfl rfl g35 dX6_breaks_83 ?_
                obtain ⟨q36, hcq36, hf⟩ := bd_of hf
                refine kc_v (va_runV (As := [.int q13, .int q13, .int v2, .int (-x11), .int (gI σ 1 0 v2.toNatClampNeg)]) (rest := []) ⟨hx, hb, hml, hown, hts⟩ (mX6_trade l D dA ad σ _ q13 q13 v2 (-x11) (gI σ 1 0 v2.toNatClampNeg) q36 hcq36) (cwV 5 hts gX6_127 rfl rfl rfl (by decide +kernel) ⟨Nat.le_of_ble_eq_true rfl, Nat.le_of_ble_eq_true rfl⟩) (preV_of hR hK (f := 0) (i := 0) rfl rfl rfl _) rfl rfl hl.1 rfl (lv_room (Nat.le_of_ble_eq_true rfl)) dX6_breaks_84 ⟨Nat.zero_le _, Nat.zero_le _⟩) hA hR hS (fun H locs hR hS => ?_)
                refine lv_goto (tgt := 120) hx hb dX6_breaks_87 (by decide) ?_
                obtain ⟨x37, hx37⟩ : ∃ y : Int32, y = v2 + 1 := ⟨_, rfl⟩
                have hf := kst_eq hx37 hf
                refine lv_iinc (v := x37) (lv' := [(2, .int x37), (4, .int q13), (3, .int x11), (0, .ref (ad 0 0)), (1, .int v1)]) hx hb dX6_breaks_120 hl (k := 2) rfl (by rw [hx37]; rfl) (by decide) rfl (fun ls hl => ?_)
                refine lv_goto (tgt := 9) hx hb dX6_breaks_123 (by decide) ?_
                exact ih _ _ _ q36 x37 v1 hR hS (lv_sub hl [0, 3, 4] rfl) hf
              · have hf := if_of_neg hf c34
                refine lv_iload_n hx hb dX6_breaks_72 rfl (lv_at hl 1 rfl) ?_
                refine lv_goto (tgt := 78) hx hb dX6_breaks_73 (by decide) ?_
                refine lv_aload_n hx hb dX6_breaks_78 rfl (lv_at hl 3 rfl) ?_
                refine va_get (D := D) (ci := 7) (C := RX6) (T := TX6) (N := 22) hx hb hts iuX6 hown hK.1 (WW_one hR (f := 0) (i := 0) rfl) 0 rfl rfl 0 (by decide) (hts _ q_808) (fun _ h9 => h9) rfl dX6_breaks_79 ?_
                refine lv_iload_n hx hb dX6_breaks_82 rfl (lv_at hl 2 rfl) ?_
                obtain ⟨g38, hf⟩ := gd_of hf
                refine va_iald hx hb hK.1 (WW_one hR (f := 1) (i := 0) rfl) 0 0 rfl rfl g38 dX6_breaks_83 ?_
                obtain ⟨q39, hcq39, hf⟩ := bd_of hf
                refine kc_v (va_runV (As := [.int q13, .int q13, .int v2, .int x11, .int (gI σ 1 0 v2.toNatClampNeg)]) (rest := []) ⟨hx, hb, hml, hown, hts⟩ (mX6_trade l D dA ad σ _ q13 q13 v2 x11 (gI σ 1 0 v2.toNatClampNeg) q39 hcq39) (cwV 5 hts gX6_127 rfl rfl rfl (by decide +kernel) ⟨Nat.le_of_ble_eq_true rfl, Nat.le_of_ble_eq_true rfl⟩) (preV_of hR hK (f := 0) (i := 0) rfl rfl rfl _) rfl rfl hl.1 rfl (lv_room (Nat.le_of_ble_eq_true rfl)) dX6_breaks_84 ⟨Nat.zero_le _, Nat.zero_le _⟩) hA hR hS (fun H locs hR hS => ?_)
                refine lv_goto (tgt := 120) hx hb dX6_breaks_87 (by decide) ?_
                obtain ⟨x40, hx40⟩ : ∃ y : Int32, y = v2 + 1 := ⟨_, rfl⟩
                have hf := kst_eq hx40 hf
                refine lv_iinc (v := x40) (lv' := [(2, .int x40), (4, .int q13), (3, .int x11), (0, .ref (ad 0 0)), (1, .int v1)]) hx hb dX6_breaks_120 hl (k := 2) rfl (by rw [hx40]; rfl) (by decide) rfl (fun ls hl => ?_)
                refine lv_goto (tgt := 9) hx hb dX6_breaks_123 (by decide) ?_
                exact ih _ _ _ q39 x40 v1 hR hS (lv_sub hl [0, 3, 4] rfl) hf
            · have hf := if_of_neg hf c33
              refine lv_iload_n hx hb dX6_breaks_61 rfl (lv_at hl 4 rfl) ?_
              refine lv_goto (tgt := 67) hx hb dX6_breaks_62 (by decide) ?_
              refine lv_iload_n hx hb dX6_breaks_67 rfl (lv_at hl 2 rfl) ?_
              refine lv_iload_n hx hb dX6_breaks_68 rfl (lv_at hl 1 rfl) ?_
              refine lv_if_le (tgt := 76) hx hb dX6_breaks_69 (by decide) (fun c41 => ?_) (fun c41 => ?_)
              · have hf := if_of_pos hf c41
                refine lv_iload_n hx hb dX6_breaks_76 rfl (lv_at hl 1 rfl) ?_
                refine lv_ineg hx hb dX6_breaks_77 ?_
                refine lv_aload_n hx hb dX6_breaks_78 rfl (lv_at hl 3 rfl) ?_
                refine va_get (D := D) (ci := 7) (C := RX6) (T := TX6) (N := 22) hx hb hts iuX6 hown hK.1 (WW_one hR (f := 0) (i := 0) rfl) 0 rfl rfl 0 (by decide) (hts _ q_808) (fun _ h9 => h9) rfl dX6_breaks_79 ?_
                refine lv_iload_n hx hb dX6_breaks_82 rfl (lv_at hl 2 rfl) ?_
                obtain ⟨g42, hf⟩ := gd_of hf
                refine va_iald hx hb hK.1 (WW_one hR (f := 1) (i := 0) rfl) 0 0 rfl rfl g42 dX6_breaks_83 ?_
                obtain ⟨q43, hcq43, hf⟩ := bd_of hf
                refine kc_v (va_runV (As := [.int q13, .int v1, .int v2, .int (-x11), .int (gI σ 1 0 v2.toNatClampNeg)]) (rest := []) ⟨hx, hb, hml, hown, hts⟩ (mX6_trade l D dA ad σ _ q13 v1 v2 (-x11) (gI σ 1 0 v2.toNatClampNeg) q43 hcq43) (cwV 5 hts gX6_127 rfl rfl rfl (by decide +kernel) ⟨Nat.le_of_ble_eq_true rfl, Nat.le_of_ble_eq_true rfl⟩) (preV_of hR hK (f := 0) (i := 0) rfl rfl rfl _) rfl rfl hl.1 rfl (lv_room (Nat.le_of_ble_eq_true rfl)) dX6_breaks_84 ⟨Nat.zero_le _, Nat.zero_le _⟩) hA hR hS (fun H locs hR hS => ?_)
                refine lv_goto (tgt := 120) hx hb dX6_breaks_87 (by decide) ?_
                obtain ⟨x44, hx44⟩ : ∃ y : Int32, y = v2 + 1 := ⟨_, rfl⟩
                have hf := kst_eq hx44 hf
                refine lv_iinc (v := x44) (lv' := [(2, .int x44), (4, .int q13), (3, .int x11), (0, .ref (ad 0 0)), (1, .int v1)]) hx hb dX6_breaks_120 hl (k := 2) rfl (by rw [hx44]; rfl) (by decide) rfl (fun ls hl => ?_)
                refine lv_goto (tgt := 9) hx hb dX6_breaks_123 (by decide) ?_
                exact ih _ _ _ q43 x44 v1 hR hS (lv_sub hl [0, 3, 4] rfl) hf
              · have hf := if_of_neg hf c41
                refine lv_iload_n hx hb dX6_breaks_72 rfl (lv_at hl 1 rfl) ?_
                refine lv_goto (tgt := 78) hx hb dX6_breaks_73 (by decide) ?_
                refine lv_aload_n hx hb dX6_breaks_78 rfl (lv_at hl 3 rfl) ?_
                refine va_get (D := D) (ci := 7) (C := RX6) (T := TX6) (N := 22) hx hb hts iuX6 hown hK.1 (WW_one hR (f := 0) (i := 0) rfl) 0 rfl rfl 0 (by decide) (hts _ q_808) (fun _ h9 => h9) rfl dX6_breaks_79 ?_
                refine lv_iload_n hx hb dX6_breaks_82 rfl (lv_at hl 2 rfl) ?_
                obtain ⟨g45, hf⟩ := gd_of hf
                refine va_iald hx hb hK.1 (WW_one hR (f := 1) (i := 0) rfl) 0 0 rfl rfl g45 dX6_breaks_83 ?_
                obtain ⟨q46, hcq46, hf⟩ := bd_of hf
                refine kc_v (va_runV (As := [.int q13, .int v1, .int v2, .int x11, .int (gI σ 1 0 v2.toNatClampNeg)]) (rest := []) ⟨hx, hb, hml, hown, hts⟩ (mX6_trade l D dA ad σ _ q13 v1 v2 x11 (gI σ 1 0 v2.toNatClampNeg) q46 hcq46) (cwV 5 hts gX6_127 rfl rfl rfl (by decide +kernel) ⟨Nat.le_of_ble_eq_true rfl, Nat.le_of_ble_eq_true rfl⟩) (preV_of hR hK (f := 0) (i := 0) rfl rfl rfl _) rfl rfl hl.1 rfl (lv_room (Nat.le_of_ble_eq_true rfl)) dX6_breaks_84 ⟨Nat.zero_le _, Nat.zero_le _⟩) hA hR hS (fun H locs hR hS => ?_)
                refine lv_goto (tgt := 120) hx hb dX6_breaks_87 (by decide) ?_
                obtain ⟨x47, hx47⟩ : ∃ y : Int32, y = v2 + 1 := ⟨_, rfl⟩
                have hf := kst_eq hx47 hf
                refine lv_iinc (v := x47) (lv' := [(2, .int x47), (4, .int q13), (3, .int x11), (0, .ref (ad 0 0)), (1, .int v1)]) hx hb dX6_breaks_120 hl (k := 2) rfl (by rw [hx47]; rfl) (by decide) rfl (fun ls hl => ?_)
                refine lv_goto (tgt := 9) hx hb dX6_breaks_123 (by decide) ?_
                exact ih _ _ _ q46 x47 v1 hR hS (lv_sub hl [0, 3, 4] rfl) hf
      · have hf := if_of_neg hf (fun q => q c12)
        refine lv_iconst (v := (-1)) hx hb dX6_breaks_29 (by decide) ?_
        refine lv_goto (tgt := 38) hx hb dX6_breaks_30 (by decide) ?_
        refine lv_istore (lv' := [(4, .int (-1)), (3, .int x11), (2, .int v2), (0, .ref (ad 0 0)), (1, .int v1)]) hx hb dX6_breaks_38 hl (by decide) rfl (fun ls hl => ?_)
        refine lv_iload hx hb dX6_breaks_40 (lv_at hl 0 rfl) ?_
        refine lv_iconst (v := (-1)) hx hb dX6_breaks_42 (by decide) ?_
        refine lv_icmp_eq (tgt := 90) hx hb dX6_breaks_43 (by decide) (fun c48 => ?_) (fun c48 => absurd (by decide) c48)
        refine lv_aload_n hx hb dX6_breaks_90 rfl (lv_at hl 3 rfl) ?_
        refine va_get (D := D) (ci := 7) (C := RX6) (T := TX6) (N := 22) hx hb hts iuX6 hown hK.1 (WW_one hR (f := 0) (i := 0) rfl) 0 rfl rfl 4 (by decide) (hts _ q_812) (fun _ h9 => h9) rfl dX6_breaks_91 ?_
        refine lv_iconst (v := 3) hx hb dX6_breaks_94 (by decide) ?_
        refine lv_iload_n hx hb dX6_breaks_95 rfl (lv_at hl 4 rfl) ?_
        refine lv_imul hx hb dX6_breaks_96 ?_
        refine lv_iload_n hx hb dX6_breaks_97 rfl (lv_at hl 2 rfl) ?_
        refine lv_iadd hx hb dX6_breaks_98 ?_
        refine lv_dup2_11 hx hb dX6_breaks_99 rfl rfl ?_
        refine va_lald hx hb hK.1 (WW_one hR (f := 5) (i := 0) rfl) 0 1 rfl rfl g10 dX6_breaks_100 ?_
        refine lv_aload_n hx hb dX6_breaks_101 rfl (lv_at hl 3 rfl) ?_
        refine lv_iload_n hx hb dX6_breaks_102 rfl (lv_at hl 4 rfl) ?_
        refine lv_iload_n hx hb dX6_breaks_103 rfl (lv_at hl 2 rfl) ?_
        obtain ⟨q49, hcq49, hf⟩ := bd_of hf
        refine kc_l (va_runV (As := [.int v1, .int v2]) (rest := [.long (gL σ 5 0 ((3 * v1) + v2).toNatClampNeg), .int ((3 * v1) + v2), .ref (ad 5 0)]) ⟨hx, hb, hml, hown, hts⟩ (mX6_worth l D dA ad σ _ v1 v2 q49 hcq49) (cwV 2 hts gX6_86 rfl rfl rfl (by decide +kernel) ⟨Nat.le_of_ble_eq_true rfl, Nat.le_of_ble_eq_true rfl⟩) (preV_of hR hK (f := 0) (i := 0) rfl rfl rfl _) rfl rfl hl.1 rfl (lv_room (Nat.le_of_ble_eq_true rfl)) dX6_breaks_104 ⟨Nat.zero_le _, Nat.zero_le _⟩) hA hR hS (fun H locs hR hS => ?_)
        refine lv_lsub hx hb dX6_breaks_107 ?_
        refine ww_last hx hb hK.1 hR hS 1 (f := 5) (j := 0) rfl rfl rfl g10 dX6_breaks_108 (fun H locs hR hS => ?_)
        have hR := HM_row5 0 (((3 * v1) + v2).toNatClampNeg) ((gL σ 5 0 ((3 * v1) + v2).toNatClampNeg) - q49) hR
        refine lv_aload_n hx hb dX6_breaks_109 rfl (lv_at hl 3 rfl) ?_
        refine va_get (D := D) (ci := 7) (C := RX6) (T := TX6) (N := 22) hx hb hts iuX6 hown hK.1 (WW_one hR (f := 0) (i := 0) rfl) 0 rfl rfl 3 (by decide) (hts _ q_811) (fun _ h9 => h9) rfl dX6_breaks_110 ?_
        refine lv_iconst (v := 3) hx hb dX6_breaks_113 (by decide) ?_
        refine lv_iload_n hx hb dX6_breaks_114 rfl (lv_at hl 4 rfl) ?_
        refine lv_imul hx hb dX6_breaks_115 ?_
        refine lv_iload_n hx hb dX6_breaks_116 rfl (lv_at hl 2 rfl) ?_
        refine lv_iadd hx hb dX6_breaks_117 ?_
        refine lv_iconst (v := 0) hx hb dX6_breaks_118 (by decide) ?_
        refine ww_iast hx hb hK.1 hR hS 0 (f := 4) (j := 0) rfl rfl rfl g10 dX6_breaks_119 (fun H locs hR hS => ?_)
        have hR := HM_row4 0 (((3 * v1) + v2).toNatClampNeg) 0 hR
        obtain ⟨x50, hx50⟩ : ∃ y : Int32, y = v2 + 1 := ⟨_, rfl⟩
        have hf := kst_eq hx50 hf
        refine lv_iinc (v := x50) (lv' := [(2, .int x50), (4, .int (-1)), (3, .int x11), (0, .ref (ad 0 0)), (1, .int v1)]) hx hb dX6_breaks_120 hl (k := 2) rfl (by rw [hx50]; rfl) (by decide) rfl (fun ls hl => ?_)
        refine lv_goto (tgt := 9) hx hb dX6_breaks_123 (by decide) ?_
        exact ih _ _ _ (pI (pL σ 5 0 ((3 * v1) + v2).toNatClampNeg ((gL σ 5 0 ((3 * v1) + v2).toNatClampNeg) - q49)) 4 0 ((3 * v1) + v2).toNatClampNeg 0) x50 v1 hR hS (lv_sub hl [0, 3, 4] rfl) hf
def fX6_breaks (σ : St) (a1 : Int32) : Option (St) := gd (vin a1 5) (fX6_breaks_L9 1000 (pI σ 10 0 a1.toNatClampNeg 1) 0 a1)
set_option maxHeartbeats 4000000 in
set_option maxRecDepth 100000 in
theorem mX6_breaks (l : Launch) (D : va_G) (dA : Nat → ClassId) (ad : Nat → Nat → Nat) (σ : St) (sz : Nat) (a1 : Int32) (σ' : St) (hf : fX6_breaks σ a1 = some σ') : Met l yX6_breaks (WSy yX6_breaks cX6_breaks 5 none) ({ frames := 4, cells := 0, slots := 0, locals := 98 } : Room) (va_Pc [.ref (ad 0 0), .int a1] (fun U => U.heap.size = sz ∧ HM D dA (fun _ => True) ad σ U.heap ∧ KS D dA U)) (va_Qv (fun (_ : Unit) => True) (fun _ t => HM D dA (WA ad (cvM σ) sz) ad σ' t.heap) (WA ad (cvM σ) sz)) 0 0 (WA ad (cvM σ) sz) := by
  refine met_of (by decide) (Nat.le_of_ble_eq_true rfl) ?_
  intro p e s m below meth c ls hC hB hl
  obtain ⟨rfl, hR, hK⟩ := hB
  have hA : ∀ q : Nat, s.heap.size ≤ q → WA ad (cvM σ) s.heap.size q := fun q h => Or.inr h
  have hR := WW_fit (B := WA ad (cvM σ) s.heap.size) hR (fun f i h => WA_in h)
  have hS : va_S (WA ad (cvM σ) s.heap.size) s.heap s.heap [] := va_S.rf
  generalize WA ad (cvM σ) s.heap.size = A0 at hA hR hS ⊢
  have hC : CTX p s m _ meth c cX6_breaks 5 RX6 none := hC
  obtain ⟨hx, hb, hml, hown, hts, hr, hlk⟩ := id hC
  have hl : lv_has ls 5 [(0, .ref (ad 0 0)), (1, .int a1)] := hl
  unfold fX6_breaks at hf
  refine lv_aload_n hx hb dX6_breaks_0 rfl (lv_at hl 0 rfl) ?_
  refine va_get (D := D) (ci := 7) (C := RX6) (T := TX6) (N := 22) hx hb hts iuX6 hown hK.1 (WW_one hR (f := 0) (i := 0) rfl) 0 rfl rfl 9 (by decide) (hts _ q_817) (fun _ h9 => h9) rfl dX6_breaks_1 ?_
  refine lv_iload_n hx hb dX6_breaks_4 rfl (lv_at hl 1 rfl) ?_
  refine lv_iconst (v := 1) hx hb dX6_breaks_5 (by decide) ?_
  obtain ⟨g1, hf⟩ := gd_of hf
  refine ww_zast hx hb hK.1 hR hS 2 (f := 10) (j := 0) rfl rfl rfl (bz_vp (by decide : bz 1)) g1 dX6_breaks_6 (fun H locs hR hS => ?_)
  have hR := HM_row10 0 (a1.toNatClampNeg) 1 hR
  refine lv_iconst (v := 0) hx hb dX6_breaks_7 (by decide) ?_
  refine lv_istore_n (lv' := [(2, .int 0), (0, .ref (ad 0 0)), (1, .int a1)]) hx hb dX6_breaks_8 rfl hl (by decide) rfl (fun ls hl => ?_)
  exact wX6_breaks_L9 hC hK hA 1000 _ _ _ (pI σ 10 0 a1.toNatClampNeg 1) 0 a1 hR hS (lv_sub hl [0, 1, 2] rfl) hf
def fX6_hour_L9 : Nat → St → Int32 → Int32 → Option (Int32 × St)
  | 0, _, _, _ => none
  | n + 1, σ, v2, v1 => if 5 ≤ v2 then some ((v1, σ)) else gd (vin v2 5) (if ¬ (gI σ 10 0 v2.toNatClampNeg) = 0 then kst (v2 + 1) (fun x4 => fX6_hour_L9 n σ x4 v1) else bd (fX6_freeOf σ v2) (fun q5 => if q5 < 0 then if ¬ (gI (pI σ 9 0 v2.toNatClampNeg ((gI σ 9 0 v2.toNatClampNeg) + 1)) 9 0 v2.toNatClampNeg) = 2 then kst (v2 + 1) (fun x8 => fX6_hour_L9 n (pI σ 9 0 v2.toNatClampNeg ((gI σ 9 0 v2.toNatClampNeg) + 1)) x8 v1) else bd (fX6_closesOut (pI σ 9 0 v2.toNatClampNeg ((gI σ 9 0 v2.toNatClampNeg) + 1)) v2) (fun q9 => if q9.1 = 0 then kst (v2 + 1) (fun x11 => fX6_hour_L9 n q9.2 x11 v1) else bd (fX6_breaks q9.2 v2) (fun q12 => kst (v1 + 1) (fun x13 => kst (v2 + 1) (fun x14 => fX6_hour_L9 n q12 x14 x13)))) else if ¬ (gI (pI σ 9 0 v2.toNatClampNeg (-1)) 9 0 v2.toNatClampNeg) = 2 then kst (v2 + 1) (fun x16 => fX6_hour_L9 n (pI σ 9 0 v2.toNatClampNeg (-1)) x16 v1) else bd (fX6_closesOut (pI σ 9 0 v2.toNatClampNeg (-1)) v2) (fun q17 => if q17.1 = 0 then kst (v2 + 1) (fun x19 => fX6_hour_L9 n q17.2 x19 v1) else bd (fX6_breaks q17.2 v2) (fun q20 => kst (v1 + 1) (fun x21 => kst (v2 + 1) (fun x22 => fX6_hour_L9 n q20 x22 x21))))))
set_option maxHeartbeats 4000000 in
set_option maxRecDepth 100000 in
theorem wX6_hour_L9 {p : Program} {l : Launch} {e : Env} {s : State} {m : MethodId} {args : Array Value} {below : List Frame} {meth : Method} {c : Code} {D : va_G} {dA : Nat → ClassId} {A0 : Nat → Prop} {ad : Nat → Nat → Nat} {r : Int32} {σ' : St}  (hC : CTX p s m args meth c cX6_hour 3 RX6 (some .int)) (hK : KS D dA s) (hA : ∀ q, s.heap.size ≤ q → A0 q) : ∀ (n : Nat) (H : Heap) (locs : List Loc) (ls : Array Slot) (σ : St) (v2 : Int32) (v1 : Int32), HM D dA A0 ad σ H → va_S A0 s.heap H locs → lv_has ls 3 [(2, .int v2), (1, .int v1), (0, .ref (ad 0 0))] → fX6_hour_L9 n σ v2 v1 = some (r, σ') → W p l e ({ frames := 5, cells := 0, slots := 0, locals := 122 } : Room) s m args below meth c H locs 0 0 (MQ below (va_Qi (fun (x : Int32) (_ : Unit) => x = r) (fun _ t => HM D dA A0 ad σ' t.heap) A0) args s 0 0 A0) (F0 m 9 ls []) := by
  obtain ⟨hx, hb, hml, hown, hts, hr, hlk⟩ := id hC
  intro n
  induction n with
  | zero =>
    intro H locs ls σ v2 v1 hR hS hl hf
    rw [fX6_hour_L9.eq_1] at hf
    cases hf
  | succ n ih =>
    intro H locs ls σ v2 v1 hR hS hl hf
    rw [fX6_hour_L9.eq_2] at hf
    refine lv_iload_n hx hb dX6_hour_9 rfl (lv_at hl 0 rfl) ?_
    refine lv_iconst (v := 5) hx hb dX6_hour_10 (by decide) ?_
    refine lv_icmp_ge (tgt := 83) hx hb dX6_hour_11 (by decide) (fun c1 => ?_) (fun c1 => ?_)
    · have hf := if_of_pos hf c1
      refine lv_iload_n hx hb dX6_hour_83 rfl (lv_at hl 1 rfl) ?_
      cases hf
      exact ret_i hC hR hS dX6_hour_84
    · have hf := if_of_neg hf c1
      refine lv_aload_n hx hb dX6_hour_14 rfl (lv_at hl 2 rfl) ?_
      refine va_get (D := D) (ci := 7) (C := RX6) (T := TX6) (N := 22) hx hb hts iuX6 hown hK.1 (WW_one hR (f := 0) (i := 0) rfl) 0 rfl rfl 9 (by decide) (hts _ q_817) (fun _ h9 => h9) rfl dX6_hour_15 ?_
      refine lv_iload_n hx hb dX6_hour_18 rfl (lv_at hl 0 rfl) ?_
      obtain ⟨g2, hf⟩ := gd_of hf
      refine va_zald hx hb hK.1 (WW_one hR (f := 10) (i := 0) rfl) 0 2 rfl rfl g2 dX6_hour_19 ?_
      refine lv_if_ne (tgt := 77) hx hb dX6_hour_20 (by decide) (fun c3 => ?_) (fun c3 => ?_)
      · have hf := if_of_pos hf c3
        obtain ⟨x4, hx4⟩ : ∃ y : Int32, y = v2 + 1 := ⟨_, rfl⟩
        have hf := kst_eq hx4 hf
        refine lv_iinc (v := x4) (lv' := [(2, .int x4), (1, .int v1), (0, .ref (ad 0 0))]) hx hb dX6_hour_77 hl (k := 0) rfl (by rw [hx4]; rfl) (by decide) rfl (fun ls hl => ?_)
        refine lv_goto (tgt := 9) hx hb dX6_hour_80 (by decide) ?_
        exact ih _ _ _ σ x4 v1 hR hS (lv_sub hl [0, 1, 2] rfl) hf
      · have hf := if_of_neg hf (fun q => q c3)
        refine lv_aload_n hx hb dX6_hour_23 rfl (lv_at hl 2 rfl) ?_
        refine va_get (D := D) (ci := 7) (C := RX6) (T := TX6) (N := 22) hx hb hts iuX6 hown hK.1 (WW_one hR (f := 0) (i := 0) rfl) 0 rfl rfl 8 (by decide) (hts _ q_816) (fun _ h9 => h9) rfl dX6_hour_24 ?_
        refine lv_iload_n hx hb dX6_hour_27 rfl (lv_at hl 0 rfl) ?_
        refine lv_aload_n hx hb dX6_hour_28 rfl (lv_at hl 2 rfl) ?_
        refine lv_iload_n hx hb dX6_hour_29 rfl (lv_at hl 0 rfl) ?_
        obtain ⟨q5, hcq5, hf⟩ := bd_of hf
        refine kc_l (va_runV (As := [.int v2]) (rest := [.int v2, .ref (ad 9 0)]) ⟨hx, hb, hml, hown, hts⟩ (mX6_freeOf l D dA ad σ _ v2 q5 hcq5) (cwV 1 hts gX6_114 rfl rfl rfl (by decide +kernel) ⟨Nat.le_of_ble_eq_true rfl, Nat.le_of_ble_eq_true rfl⟩) (preV_of hR hK (f := 0) (i := 0) rfl rfl rfl _) rfl rfl hl.1 rfl (lv_room (Nat.le_of_ble_eq_true rfl)) dX6_hour_30 ⟨Nat.zero_le _, Nat.zero_le _⟩) hA hR hS (fun H locs hR hS => ?_)
        refine lv_lconst (v := 0) hx hb dX6_hour_33 (by decide) ?_
        refine W.lcmp hx hb dX6_hour_34 ?_
        refine lv_if_lt (tgt := 42) hx hb dX6_hour_35 (by decide) (fun c60 => ?_) (fun c60 => ?_)
        · have c6 : q5 < 0 := (lg_cmp_lt _ _).mp c60
          have hf := if_of_pos hf c6
          refine lv_aload_n hx hb dX6_hour_42 rfl (lv_at hl 2 rfl) ?_
          refine va_get (D := D) (ci := 7) (C := RX6) (T := TX6) (N := 22) hx hb hts iuX6 hown hK.1 (WW_one hR (f := 0) (i := 0) rfl) 0 rfl rfl 8 (by decide) (hts _ q_816) (fun _ h9 => h9) rfl dX6_hour_43 ?_
          refine lv_iload_n hx hb dX6_hour_46 rfl (lv_at hl 0 rfl) ?_
          refine va_iald hx hb hK.1 (WW_one hR (f := 9) (i := 0) rfl) 0 0 rfl rfl g2 dX6_hour_47 ?_
          refine lv_iconst (v := 1) hx hb dX6_hour_48 (by decide) ?_
          refine lv_iadd hx hb dX6_hour_49 ?_
          refine ww_iast hx hb hK.1 hR hS 0 (f := 9) (j := 0) rfl rfl rfl g2 dX6_hour_50 (fun H locs hR hS => ?_)
          have hR := HM_row9 0 (v2.toNatClampNeg) ((gI σ 9 0 v2.toNatClampNeg) + 1) hR
          refine lv_aload_n hx hb dX6_hour_51 rfl (lv_at hl 2 rfl) ?_
          refine va_get (D := D) (ci := 7) (C := RX6) (T := TX6) (N := 22) hx hb hts iuX6 hown hK.1 (WW_one hR (f := 0) (i := 0) rfl) 0 rfl rfl 8 (by decide) (hts _ q_816) (fun _ h9 => h9) rfl dX6_hour_52 ?_
          refine lv_iload_n hx hb dX6_hour_55 rfl (lv_at hl 0 rfl) ?_
          refine va_iald hx hb hK.1 (WW_one hR (f := 9) (i := 0) rfl) 0 0 rfl rfl g2 dX6_hour_56 ?_
          refine lv_iconst (v := 2) hx hb dX6_hour_57 (by decide) ?_
          refine lv_icmp_ne (tgt := 77) hx hb dX6_hour_58 (by decide) (fun c7 => ?_) (fun c7 => ?_)
          · have hf := if_of_pos hf c7
            obtain ⟨x8, hx8⟩ : ∃ y : Int32, y = v2 + 1 := ⟨_, rfl⟩
            have hf := kst_eq hx8 hf
            refine lv_iinc (v := x8) (lv' := [(2, .int x8), (1, .int v1), (0, .ref (ad 0 0))]) hx hb dX6_hour_77 hl (k := 0) rfl (by rw [hx8]; rfl) (by decide) rfl (fun ls hl => ?_)
            refine lv_goto (tgt := 9) hx hb dX6_hour_80 (by decide) ?_
            exact ih _ _ _ (pI σ 9 0 v2.toNatClampNeg ((gI σ 9 0 v2.toNatClampNeg) + 1)) x8 v1 hR hS (lv_sub hl [0, 1, 2] rfl) hf
          · have hf := if_of_neg hf (fun q => q c7)
            refine lv_aload_n hx hb dX6_hour_61 rfl (lv_at hl 2 rfl) ?_
            refine lv_iload_n hx hb dX6_hour_62 rfl (lv_at hl 0 rfl) ?_
            obtain ⟨q9, hcq9, hf⟩ := bd_of hf
            refine kc_i (va_runV (As := [.int v2]) (rest := []) ⟨hx, hb, hml, hown, hts⟩ (mX6_closesOut l D dA ad (pI σ 9 0 v2.toNatClampNeg ((gI σ 9 0 v2.toNatClampNeg) + 1)) _ v2 q9.1 q9.2 hcq9) (cwV 1 hts gX6_164 rfl rfl rfl (by decide +kernel) ⟨Nat.le_of_ble_eq_true rfl, Nat.le_of_ble_eq_true rfl⟩) (preV_of hR hK (f := 0) (i := 0) rfl rfl rfl _) rfl rfl hl.1 rfl (lv_room (Nat.le_of_ble_eq_true rfl)) dX6_hour_63 ⟨Nat.zero_le _, Nat.zero_le _⟩) hA hR hS (fun H locs hR hS => ?_)
            refine lv_if_eq (tgt := 77) hx hb dX6_hour_66 (by decide) (fun c10 => ?_) (fun c10 => ?_)
            · have hf := if_of_pos hf c10
              obtain ⟨x11, hx11⟩ : ∃ y : Int32, y = v2 + 1 := ⟨_, rfl⟩
              have hf := kst_eq hx11 hf
              refine lv_iinc (v := x11) (lv' := [(2, .int x11), (1, .int v1), (0, .ref (ad 0 0))]) hx hb dX6_hour_77 hl (k := 0) rfl (by rw [hx11]; rfl) (by decide) rfl (fun ls hl => ?_)
              refine lv_goto (tgt := 9) hx hb dX6_hour_80 (by decide) ?_
              exact ih _ _ _ q9.2 x11 v1 hR hS (lv_sub hl [0, 1, 2] rfl) hf
            · have hf := if_of_neg hf c10
              refine lv_aload_n hx hb dX6_hour_69 rfl (lv_at hl 2 rfl) ?_
              refine lv_iload_n hx hb dX6_hour_70 rfl (lv_at hl 0 rfl) ?_
              obtain ⟨q12, hcq12, hf⟩ := bd_of hf
              refine kc_v (va_runV (As := [.int v2]) (rest := []) ⟨hx, hb, hml, hown, hts⟩ (mX6_breaks l D dA ad q9.2 _ v2 q12 hcq12) (cwV 1 hts gX6_167 rfl rfl rfl (by decide +kernel) ⟨Nat.le_of_ble_eq_true rfl, Nat.le_of_ble_eq_true rfl⟩) (preV_of hR hK (f := 0) (i := 0) rfl rfl rfl _) rfl rfl hl.1 rfl (lv_room (Nat.le_of_ble_eq_true rfl)) dX6_hour_71 ⟨Nat.zero_le _, Nat.zero_le _⟩) hA hR hS (fun H locs hR hS => ?_)
              obtain ⟨x13, hx13⟩ : ∃ y : Int32, y = v1 + 1 := ⟨_, rfl⟩
              have hf := kst_eq hx13 hf
              refine lv_iinc (v := x13) (lv' := [(1, .int x13), (2, .int v2), (0, .ref (ad 0 0))]) hx hb dX6_hour_74 hl (k := 1) rfl (by rw [hx13]; rfl) (by decide) rfl (fun ls hl => ?_)
              obtain ⟨x14, hx14⟩ : ∃ y : Int32, y = v2 + 1 := ⟨_, rfl⟩
              have hf := kst_eq hx14 hf
              refine lv_iinc (v := x14) (lv' := [(2, .int x14), (1, .int x13), (0, .ref (ad 0 0))]) hx hb dX6_hour_77 hl (k := 1) rfl (by rw [hx14]; rfl) (by decide) rfl (fun ls hl => ?_)
              refine lv_goto (tgt := 9) hx hb dX6_hour_80 (by decide) ?_
              exact ih _ _ _ q12 x14 x13 hR hS (lv_sub hl [0, 1, 2] rfl) hf
        · have c6 : ¬ (q5 < 0) := fun q => c60 ((lg_cmp_lt _ _).mpr q)
          have hf := if_of_neg hf c6
          refine lv_iconst (v := (-1)) hx hb dX6_hour_38 (by decide) ?_
          refine lv_goto (tgt := 50) hx hb dX6_hour_39 (by decide) ?_
          refine ww_iast hx hb hK.1 hR hS 0 (f := 9) (j := 0) rfl rfl rfl g2 dX6_hour_50 (fun H locs hR hS => ?_)
          have hR := HM_row9 0 (v2.toNatClampNeg) (-1) hR
          refine lv_aload_n hx hb dX6_hour_51 rfl (lv_at hl 2 rfl) ?_
          refine va_get (D := D) (ci := 7) (C := RX6) (T := TX6) (N := 22) hx hb hts iuX6 hown hK.1 (WW_one hR (f := 0) (i := 0) rfl) 0 rfl rfl 8 (by decide) (hts _ q_816) (fun _ h9 => h9) rfl dX6_hour_52 ?_
          refine lv_iload_n hx hb dX6_hour_55 rfl (lv_at hl 0 rfl) ?_
          refine va_iald hx hb hK.1 (WW_one hR (f := 9) (i := 0) rfl) 0 0 rfl rfl g2 dX6_hour_56 ?_
          refine lv_iconst (v := 2) hx hb dX6_hour_57 (by decide) ?_
          refine lv_icmp_ne (tgt := 77) hx hb dX6_hour_58 (by decide) (fun c15 => ?_) (fun c15 => ?_)
          · have hf := if_of_pos hf c15
            obtain ⟨x16, hx16⟩ : ∃ y : Int32, y = v2 + 1 := ⟨_, rfl⟩
            have hf := kst_eq hx16 hf
            refine lv_iinc (v := x16) (lv' := [(2, .int x16), (1, .int v1), (0, .ref (ad 0 0))]) hx hb dX6_hour_77 hl (k := 0) rfl (by rw [hx16]; rfl) (by decide) rfl (fun ls hl => ?_)
            refine lv_goto (tgt := 9) hx hb dX6_hour_80 (by decide) ?_
            exact ih _ _ _ (pI σ 9 0 v2.toNatClampNeg (-1)) x16 v1 hR hS (lv_sub hl [0, 1, 2] rfl) hf
          · have hf := if_of_neg hf (fun q => q c15)
            refine lv_aload_n hx hb dX6_hour_61 rfl (lv_at hl 2 rfl) ?_
            refine lv_iload_n hx hb dX6_hour_62 rfl (lv_at hl 0 rfl) ?_
            obtain ⟨q17, hcq17, hf⟩ := bd_of hf
            refine kc_i (va_runV (As := [.int v2]) (rest := []) ⟨hx, hb, hml, hown, hts⟩ (mX6_closesOut l D dA ad (pI σ 9 0 v2.toNatClampNeg (-1)) _ v2 q17.1 q17.2 hcq17) (cwV 1 hts gX6_164 rfl rfl rfl (by decide +kernel) ⟨Nat.le_of_ble_eq_true rfl, Nat.le_of_ble_eq_true rfl⟩) (preV_of hR hK (f := 0) (i := 0) rfl rfl rfl _) rfl rfl hl.1 rfl (lv_room (Nat.le_of_ble_eq_true rfl)) dX6_hour_63 ⟨Nat.zero_le _, Nat.zero_le _⟩) hA hR hS (fun H locs hR hS => ?_)
            refine lv_if_eq (tgt := 77) hx hb dX6_hour_66 (by decide) (fun c18 => ?_) (fun c18 => ?_)
            · have hf := if_of_pos hf c18
              obtain ⟨x19, hx19⟩ : ∃ y : Int32, y = v2 + 1 := ⟨_, rfl⟩
              have hf := kst_eq hx19 hf
              refine lv_iinc (v := x19) (lv' := [(2, .int x19), (1, .int v1), (0, .ref (ad 0 0))]) hx hb dX6_hour_77 hl (k := 0) rfl (by rw [hx19]; rfl) (by decide) rfl (fun ls hl => ?_)
              refine lv_goto (tgt := 9) hx hb dX6_hour_80 (by decide) ?_
              exact ih _ _ _ q17.2 x19 v1 hR hS (lv_sub hl [0, 1, 2] rfl) hf
            · have hf := if_of_neg hf c18
              refine lv_aload_n hx hb dX6_hour_69 rfl (lv_at hl 2 rfl) ?_
              refine lv_iload_n hx hb dX6_hour_70 rfl (lv_at hl 0 rfl) ?_
              obtain ⟨q20, hcq20, hf⟩ := bd_of hf
              refine kc_v (va_runV (As := [.int v2]) (rest := []) ⟨hx, hb, hml, hown, hts⟩ (mX6_breaks l D dA ad q17.2 _ v2 q20 hcq20) (cwV 1 hts gX6_167 rfl rfl rfl (by decide +kernel) ⟨Nat.le_of_ble_eq_true rfl, Nat.le_of_ble_eq_true rfl⟩) (preV_of hR hK (f := 0) (i := 0) rfl rfl rfl _) rfl rfl hl.1 rfl (lv_room (Nat.le_of_ble_eq_true rfl)) dX6_hour_71 ⟨Nat.zero_le _, Nat.zero_le _⟩) hA hR hS (fun H locs hR hS => ?_)
              obtain ⟨x21, hx21⟩ : ∃ y : Int32, y = v1 + 1 := ⟨_, rfl⟩
              have hf := kst_eq hx21 hf
              refine lv_iinc (v := x21) (lv' := [(1, .int x21), (2, .int v2), (0, .ref (ad 0 0))]) hx hb dX6_hour_74 hl (k := 1) rfl (by rw [hx21]; rfl) (by decide) rfl (fun ls hl => ?_)
              obtain ⟨x22, hx22⟩ : ∃ y : Int32, y = v2 + 1 := ⟨_, rfl⟩
              have hf := kst_eq hx22 hf
              refine lv_iinc (v := x22) (lv' := [(2, .int x22), (1, .int x21), (0, .ref (ad 0 0))]) hx hb dX6_hour_77 hl (k := 1) rfl (by rw [hx22]; rfl) (by decide) rfl (fun ls hl => ?_)
              refine lv_goto (tgt := 9) hx hb dX6_hour_80 (by decide) ?_
              exact ih _ _ _ q20 x22 x21 hR hS (lv_sub hl [0, 1, 2] rfl) hf
def fX6_hour (σ : St) : Option (Int32 × St) := fX6_hour_L9 1000 (pI σ 23 0 0 0) 0 0
set_option maxHeartbeats 4000000 in
set_option maxRecDepth 100000 in
theorem mX6_hour (l : Launch) (D : va_G) (dA : Nat → ClassId) (ad : Nat → Nat → Nat) (σ : St) (sz : Nat) (r : Int32) (σ' : St) (hf : fX6_hour σ = some (r, σ')) : Met l yX6_hour (WSy yX6_hour cX6_hour 3 (some .int)) ({ frames := 5, cells := 0, slots := 0, locals := 122 } : Room) (va_Pc [.ref (ad 0 0)] (fun U => U.heap.size = sz ∧ HM D dA (fun _ => True) ad σ U.heap ∧ KS D dA U)) (va_Qi (fun (x : Int32) (_ : Unit) => x = r) (fun _ t => HM D dA (WA ad (cvM σ) sz) ad σ' t.heap) (WA ad (cvM σ) sz)) 0 0 (WA ad (cvM σ) sz) := by
  refine met_of (by decide) (Nat.le_of_ble_eq_true rfl) ?_
  intro p e s m below meth c ls hC hB hl
  obtain ⟨rfl, hR, hK⟩ := hB
  have hA : ∀ q : Nat, s.heap.size ≤ q → WA ad (cvM σ) s.heap.size q := fun q h => Or.inr h
  have hR := WW_fit (B := WA ad (cvM σ) s.heap.size) hR (fun f i h => WA_in h)
  have hS : va_S (WA ad (cvM σ) s.heap.size) s.heap s.heap [] := va_S.rf
  generalize WA ad (cvM σ) s.heap.size = A0 at hA hR hS ⊢
  have hC : CTX p s m _ meth c cX6_hour 3 RX6 (some .int) := hC
  obtain ⟨hx, hb, hml, hown, hts, hr, hlk⟩ := id hC
  have hl : lv_has ls 3 [(0, .ref (ad 0 0))] := hl
  unfold fX6_hour at hf
  refine lv_aload_n hx hb dX6_hour_0 rfl (lv_at hl 0 rfl) ?_
  refine lv_iconst (v := 0) hx hb dX6_hour_1 (by decide) ?_
  refine ww_put (D := D) (ci := 7) (C := RX6) (T := TX6) (N := 22) (ty := .int) hx hb hts iuX6 tyX6 tyX6_ok nmX6 hown hK.1 hR hS (f := 0) (i := 0) rfl rfl rfl 21 (by decide) (hts _ q_829) (fun _ h9 => h9) rfl (by decide +kernel) rfl rfl (Nat.le_of_ble_eq_true rfl) dX6_hour_2 (fun H locs hR hS => ?_)
  have hR := HM_model_thrown 0 0 hR
  refine lv_iconst (v := 0) hx hb dX6_hour_5 (by decide) ?_
  refine lv_istore_n (lv' := [(1, .int 0), (0, .ref (ad 0 0))]) hx hb dX6_hour_6 rfl hl (by decide) rfl (fun ls hl => ?_)
  refine lv_iconst (v := 0) hx hb dX6_hour_7 (by decide) ?_
  refine lv_istore_n (lv' := [(2, .int 0), (1, .int 0), (0, .ref (ad 0 0))]) hx hb dX6_hour_8 rfl hl (by decide) rfl (fun ls hl => ?_)
  exact wX6_hour_L9 hC hK hA 1000 _ _ _ (pI σ 23 0 0 0) 0 0 hR hS (lv_sub hl [0, 1, 2] rfl) hf
def fX6_evening_L9 : Nat → St → Int32 → Int64 → Option (Int32 × St)
  | 0, _, _, _ => none
  | n + 1, σ, v3, v1 => if 5 ≤ v3 then some ((Int64.toInt32 v1, σ)) else bd (fX6_nets σ v3) (fun q2 => kst (v1 + q2.1) (fun x3 => kst (v3 + 1) (fun x4 => fX6_evening_L9 n q2.2 x4 x3)))
set_option maxHeartbeats 4000000 in
set_option maxRecDepth 100000 in
theorem wX6_evening_L9 {p : Program} {l : Launch} {e : Env} {s : State} {m : MethodId} {args : Array Value} {below : List Frame} {meth : Method} {c : Code} {D : va_G} {dA : Nat → ClassId} {A0 : Nat → Prop} {ad : Nat → Nat → Nat} {r : Int32} {σ' : St}  (hC : CTX p s m args meth c cX6_evening 4 RX6 (some .int)) (hK : KS D dA s) (hA : ∀ q, s.heap.size ≤ q → A0 q) : ∀ (n : Nat) (H : Heap) (locs : List Loc) (ls : Array Slot) (σ : St) (v3 : Int32) (v1 : Int64), HM D dA A0 ad σ H → va_S A0 s.heap H locs → lv_has ls 4 [(3, .int v3), (1, .long v1), (0, .ref (ad 0 0))] → fX6_evening_L9 n σ v3 v1 = some (r, σ') → W p l e ({ frames := 2, cells := 0, slots := 0, locals := 46 } : Room) s m args below meth c H locs 0 0 (MQ below (va_Qi (fun (x : Int32) (_ : Unit) => x = r) (fun _ t => HM D dA A0 ad σ' t.heap) A0) args s 0 0 A0) (F0 m 9 ls []) := by
  obtain ⟨hx, hb, hml, hown, hts, hr, hlk⟩ := id hC
  intro n
  induction n with
  | zero =>
    intro H locs ls σ v3 v1 hR hS hl hf
    rw [fX6_evening_L9.eq_1] at hf
    cases hf
  | succ n ih =>
    intro H locs ls σ v3 v1 hR hS hl hf
    rw [fX6_evening_L9.eq_2] at hf
    refine lv_iload_n hx hb dX6_evening_9 rfl (lv_at hl 0 rfl) ?_
    refine lv_iconst (v := 5) hx hb dX6_evening_10 (by decide) ?_
    refine lv_icmp_ge (tgt := 28) hx hb dX6_evening_11 (by decide) (fun c1 => ?_) (fun c1 => ?_)
    · have hf := if_of_pos hf c1
      refine lv_lload_n hx hb dX6_evening_28 rfl (lv_at hl 1 rfl) ?_
      refine lv_l2i hx hb dX6_evening_29 rfl ?_
      cases hf
      exact ret_i hC hR hS dX6_evening_30
    · have hf := if_of_neg hf c1
      refine lv_lload_n hx hb dX6_evening_14 rfl (lv_at hl 1 rfl) ?_
      refine lv_aload_n hx hb dX6_evening_15 rfl (lv_at hl 2 rfl) ?_
      refine lv_iload_n hx hb dX6_evening_16 rfl (lv_at hl 0 rfl) ?_
      obtain ⟨q2, hcq2, hf⟩ := bd_of hf
      refine kc_l (va_runV (As := [.int v3]) (rest := [.long v1]) ⟨hx, hb, hml, hown, hts⟩ (mX6_nets l D dA ad σ _ v3 q2.1 q2.2 hcq2) (cwV 1 hts gX6_153 rfl rfl rfl (by decide +kernel) ⟨Nat.le_of_ble_eq_true rfl, Nat.le_of_ble_eq_true rfl⟩) (preV_of hR hK (f := 0) (i := 0) rfl rfl rfl _) rfl rfl hl.1 rfl (lv_room (Nat.le_of_ble_eq_true rfl)) dX6_evening_17 ⟨Nat.zero_le _, Nat.zero_le _⟩) hA hR hS (fun H locs hR hS => ?_)
      refine lv_ladd hx hb dX6_evening_20 ?_
      refine lv_topl (fun x3 hx3 => ?_)
      have hf := kst_eq hx3 hf
      refine lv_lstore_n (lv' := [(1, .long x3), (3, .int v3), (0, .ref (ad 0 0))]) hx hb dX6_evening_21 rfl hl (by decide) rfl (fun ls hl => ?_)
      obtain ⟨x4, hx4⟩ : ∃ y : Int32, y = v3 + 1 := ⟨_, rfl⟩
      have hf := kst_eq hx4 hf
      refine lv_iinc (v := x4) (lv' := [(3, .int x4), (1, .long x3), (0, .ref (ad 0 0))]) hx hb dX6_evening_22 hl (k := 1) rfl (by rw [hx4]; rfl) (by decide) rfl (fun ls hl => ?_)
      refine lv_goto (tgt := 9) hx hb dX6_evening_25 (by decide) ?_
      exact ih _ _ _ q2.2 x4 x3 hR hS (lv_sub hl [0, 1, 2] rfl) hf
def fX6_evening (σ : St) : Option (Int32 × St) := fX6_evening_L9 1000 (pI σ 23 0 0 0) 0 0
set_option maxHeartbeats 4000000 in
set_option maxRecDepth 100000 in
theorem mX6_evening (l : Launch) (D : va_G) (dA : Nat → ClassId) (ad : Nat → Nat → Nat) (σ : St) (sz : Nat) (r : Int32) (σ' : St) (hf : fX6_evening σ = some (r, σ')) : Met l yX6_evening (WSy yX6_evening cX6_evening 4 (some .int)) ({ frames := 2, cells := 0, slots := 0, locals := 46 } : Room) (va_Pc [.ref (ad 0 0)] (fun U => U.heap.size = sz ∧ HM D dA (fun _ => True) ad σ U.heap ∧ KS D dA U)) (va_Qi (fun (x : Int32) (_ : Unit) => x = r) (fun _ t => HM D dA (WA ad (cvM σ) sz) ad σ' t.heap) (WA ad (cvM σ) sz)) 0 0 (WA ad (cvM σ) sz) := by
  refine met_of (by decide) (Nat.le_of_ble_eq_true rfl) ?_
  intro p e s m below meth c ls hC hB hl
  obtain ⟨rfl, hR, hK⟩ := hB
  have hA : ∀ q : Nat, s.heap.size ≤ q → WA ad (cvM σ) s.heap.size q := fun q h => Or.inr h
  have hR := WW_fit (B := WA ad (cvM σ) s.heap.size) hR (fun f i h => WA_in h)
  have hS : va_S (WA ad (cvM σ) s.heap.size) s.heap s.heap [] := va_S.rf
  generalize WA ad (cvM σ) s.heap.size = A0 at hA hR hS ⊢
  have hC : CTX p s m _ meth c cX6_evening 4 RX6 (some .int) := hC
  obtain ⟨hx, hb, hml, hown, hts, hr, hlk⟩ := id hC
  have hl : lv_has ls 4 [(0, .ref (ad 0 0))] := hl
  unfold fX6_evening at hf
  refine lv_aload_n hx hb dX6_evening_0 rfl (lv_at hl 0 rfl) ?_
  refine lv_iconst (v := 0) hx hb dX6_evening_1 (by decide) ?_
  refine ww_put (D := D) (ci := 7) (C := RX6) (T := TX6) (N := 22) (ty := .int) hx hb hts iuX6 tyX6 tyX6_ok nmX6 hown hK.1 hR hS (f := 0) (i := 0) rfl rfl rfl 21 (by decide) (hts _ q_829) (fun _ h9 => h9) rfl (by decide +kernel) rfl rfl (Nat.le_of_ble_eq_true rfl) dX6_evening_2 (fun H locs hR hS => ?_)
  have hR := HM_model_thrown 0 0 hR
  refine lv_lconst (v := 0) hx hb dX6_evening_5 (by decide) ?_
  refine lv_lstore_n (lv' := [(1, .long 0), (0, .ref (ad 0 0))]) hx hb dX6_evening_6 rfl hl (by decide) rfl (fun ls hl => ?_)
  refine lv_iconst (v := 0) hx hb dX6_evening_7 (by decide) ?_
  refine lv_istore_n (lv' := [(3, .int 0), (1, .long 0), (0, .ref (ad 0 0))]) hx hb dX6_evening_8 rfl hl (by decide) rfl (fun ls hl => ?_)
  exact wX6_evening_L9 hC hK hA 1000 _ _ _ (pI σ 23 0 0 0) 0 0 hR hS (lv_sub hl [0, 1, 2] rfl) hf
def fX6_called (σ : St) (a1 : Int32) : Option (Int32 × St) := bd (fX6_isMember σ a1) (fun q1 => bd (fX6_asks σ q1) (fun q2 => if q2.1 = 0 then some ((0, q2.2)) else gd (vin a1 5) (some ((gI q2.2 9 0 a1.toNatClampNeg, q2.2)))))
set_option maxHeartbeats 4000000 in
set_option maxRecDepth 100000 in
theorem mX6_called (l : Launch) (D : va_G) (dA : Nat → ClassId) (ad : Nat → Nat → Nat) (σ : St) (sz : Nat) (a1 : Int32) (r : Int32) (σ' : St) (hf : fX6_called σ a1 = some (r, σ')) : Met l yX6_called (WSy yX6_called cX6_called 2 (some .int)) ({ frames := 1, cells := 0, slots := 0, locals := 21 } : Room) (va_Pc [.ref (ad 0 0), .int a1] (fun U => U.heap.size = sz ∧ HM D dA (fun _ => True) ad σ U.heap ∧ KS D dA U)) (va_Qi (fun (x : Int32) (_ : Unit) => x = r) (fun _ t => HM D dA (WA ad (cvM σ) sz) ad σ' t.heap) (WA ad (cvM σ) sz)) 0 0 (WA ad (cvM σ) sz) := by
  refine met_of (by decide) (Nat.le_of_ble_eq_true rfl) ?_
  intro p e s m below meth c ls hC hB hl
  obtain ⟨rfl, hR, hK⟩ := hB
  have hA : ∀ q : Nat, s.heap.size ≤ q → WA ad (cvM σ) s.heap.size q := fun q h => Or.inr h
  have hR := WW_fit (B := WA ad (cvM σ) s.heap.size) hR (fun f i h => WA_in h)
  have hS : va_S (WA ad (cvM σ) s.heap.size) s.heap s.heap [] := va_S.rf
  generalize WA ad (cvM σ) s.heap.size = A0 at hA hR hS ⊢
  have hC : CTX p s m _ meth c cX6_called 2 RX6 (some .int) := hC
  obtain ⟨hx, hb, hml, hown, hts, hr, hlk⟩ := id hC
  have hl : lv_has ls 2 [(0, .ref (ad 0 0)), (1, .int a1)] := hl
  unfold fX6_called at hf
  refine lv_aload_n hx hb dX6_called_0 rfl (lv_at hl 0 rfl) ?_
  refine lv_iload_n hx hb dX6_called_1 rfl (lv_at hl 1 rfl) ?_
  obtain ⟨q1, hcq1, hf⟩ := bd_of hf
  refine kc_i (va_runS (As := [.int a1]) (rest := [.ref (ad 0 0)]) ⟨hx, hb, hml, hown, hts⟩ (mX6_isMember l D dA ad σ _ a1 q1 hcq1) (va_cwS 1 hts gX6_109 rfl rfl rfl (by decide +kernel) ⟨Nat.le_of_ble_eq_true rfl, Nat.le_of_ble_eq_true rfl⟩) (preS_of hR hK _) rfl rfl hl.1 rfl (lv_room (Nat.le_of_ble_eq_true rfl)) dX6_called_2 ⟨Nat.zero_le _, Nat.zero_le _⟩) hA hR hS (fun H locs hR hS => ?_)
  obtain ⟨q2, hcq2, hf⟩ := bd_of hf
  refine kc_i (va_runV (As := [.int q1]) (rest := []) ⟨hx, hb, hml, hown, hts⟩ (mX6_asks l D dA ad σ _ q1 q2.1 q2.2 hcq2) (cwV 1 hts gX6_78 rfl rfl rfl (by decide +kernel) ⟨Nat.le_of_ble_eq_true rfl, Nat.le_of_ble_eq_true rfl⟩) (preV_of hR hK (f := 0) (i := 0) rfl rfl rfl _) rfl rfl hl.1 rfl (lv_room (Nat.le_of_ble_eq_true rfl)) dX6_called_5 ⟨Nat.zero_le _, Nat.zero_le _⟩) hA hR hS (fun H locs hR hS => ?_)
  refine lv_if_eq (tgt := 20) hx hb dX6_called_8 (by decide) (fun c3 => ?_) (fun c3 => ?_)
  · have hf := if_of_pos hf c3
    refine lv_iconst (v := 0) hx hb dX6_called_20 (by decide) ?_
    cases hf
    exact ret_i hC hR hS dX6_called_21
  · have hf := if_of_neg hf c3
    refine lv_aload_n hx hb dX6_called_11 rfl (lv_at hl 0 rfl) ?_
    refine va_get (D := D) (ci := 7) (C := RX6) (T := TX6) (N := 22) hx hb hts iuX6 hown hK.1 (WW_one hR (f := 0) (i := 0) rfl) 0 rfl rfl 8 (by decide) (hts _ q_816) (fun _ h9 => h9) rfl dX6_called_12 ?_
    refine lv_iload_n hx hb dX6_called_15 rfl (lv_at hl 1 rfl) ?_
    obtain ⟨g4, hf⟩ := gd_of hf
    refine va_iald hx hb hK.1 (WW_one hR (f := 9) (i := 0) rfl) 0 0 rfl rfl g4 dX6_called_16 ?_
    refine lv_goto (tgt := 21) hx hb dX6_called_17 (by decide) ?_
    cases hf
    exact ret_i hC hR hS dX6_called_21
def fX6_hasFailed (σ : St) (a1 : Int32) : Option (Int32 × St) := bd (fX6_isMember σ a1) (fun q1 => bd (fX6_asks σ q1) (fun q2 => if q2.1 = 0 then some ((0, q2.2)) else gd (vin a1 5) (if (gI q2.2 10 0 a1.toNatClampNeg) = 0 then some ((0, q2.2)) else some ((1, q2.2)))))
set_option maxHeartbeats 4000000 in
set_option maxRecDepth 100000 in
theorem mX6_hasFailed (l : Launch) (D : va_G) (dA : Nat → ClassId) (ad : Nat → Nat → Nat) (σ : St) (sz : Nat) (a1 : Int32) (r : Int32) (σ' : St) (hf : fX6_hasFailed σ a1 = some (r, σ')) : Met l yX6_hasFailed (WSy yX6_hasFailed cX6_hasFailed 2 (some .boolean)) ({ frames := 1, cells := 0, slots := 0, locals := 21 } : Room) (va_Pc [.ref (ad 0 0), .int a1] (fun U => U.heap.size = sz ∧ HM D dA (fun _ => True) ad σ U.heap ∧ KS D dA U)) (va_Qi (fun (x : Int32) (_ : Unit) => x = r) (fun _ t => HM D dA (WA ad (cvM σ) sz) ad σ' t.heap) (WA ad (cvM σ) sz)) 0 0 (WA ad (cvM σ) sz) := by
  refine met_of (by decide) (Nat.le_of_ble_eq_true rfl) ?_
  intro p e s m below meth c ls hC hB hl
  obtain ⟨rfl, hR, hK⟩ := hB
  have hA : ∀ q : Nat, s.heap.size ≤ q → WA ad (cvM σ) s.heap.size q := fun q h => Or.inr h
  have hR := WW_fit (B := WA ad (cvM σ) s.heap.size) hR (fun f i h => WA_in h)
  have hS : va_S (WA ad (cvM σ) s.heap.size) s.heap s.heap [] := va_S.rf
  generalize WA ad (cvM σ) s.heap.size = A0 at hA hR hS ⊢
  have hC : CTX p s m _ meth c cX6_hasFailed 2 RX6 (some .boolean) := hC
  obtain ⟨hx, hb, hml, hown, hts, hr, hlk⟩ := id hC
  have hl : lv_has ls 2 [(0, .ref (ad 0 0)), (1, .int a1)] := hl
  unfold fX6_hasFailed at hf
  refine lv_aload_n hx hb dX6_hasFailed_0 rfl (lv_at hl 0 rfl) ?_
  refine lv_iload_n hx hb dX6_hasFailed_1 rfl (lv_at hl 1 rfl) ?_
  obtain ⟨q1, hcq1, hf⟩ := bd_of hf
  refine kc_i (va_runS (As := [.int a1]) (rest := [.ref (ad 0 0)]) ⟨hx, hb, hml, hown, hts⟩ (mX6_isMember l D dA ad σ _ a1 q1 hcq1) (va_cwS 1 hts gX6_109 rfl rfl rfl (by decide +kernel) ⟨Nat.le_of_ble_eq_true rfl, Nat.le_of_ble_eq_true rfl⟩) (preS_of hR hK _) rfl rfl hl.1 rfl (lv_room (Nat.le_of_ble_eq_true rfl)) dX6_hasFailed_2 ⟨Nat.zero_le _, Nat.zero_le _⟩) hA hR hS (fun H locs hR hS => ?_)
  obtain ⟨q2, hcq2, hf⟩ := bd_of hf
  refine kc_i (va_runV (As := [.int q1]) (rest := []) ⟨hx, hb, hml, hown, hts⟩ (mX6_asks l D dA ad σ _ q1 q2.1 q2.2 hcq2) (cwV 1 hts gX6_78 rfl rfl rfl (by decide +kernel) ⟨Nat.le_of_ble_eq_true rfl, Nat.le_of_ble_eq_true rfl⟩) (preV_of hR hK (f := 0) (i := 0) rfl rfl rfl _) rfl rfl hl.1 rfl (lv_room (Nat.le_of_ble_eq_true rfl)) dX6_hasFailed_5 ⟨Nat.zero_le _, Nat.zero_le _⟩) hA hR hS (fun H locs hR hS => ?_)
  refine lv_if_eq (tgt := 24) hx hb dX6_hasFailed_8 (by decide) (fun c3 => ?_) (fun c3 => ?_)
  · have hf := if_of_pos hf c3
    refine lv_iconst (v := 0) hx hb dX6_hasFailed_24 (by decide) ?_
    cases hf
    exact ret_z hC hR hS (by decide) dX6_hasFailed_25
  · have hf := if_of_neg hf c3
    refine lv_aload_n hx hb dX6_hasFailed_11 rfl (lv_at hl 0 rfl) ?_
    refine va_get (D := D) (ci := 7) (C := RX6) (T := TX6) (N := 22) hx hb hts iuX6 hown hK.1 (WW_one hR (f := 0) (i := 0) rfl) 0 rfl rfl 9 (by decide) (hts _ q_817) (fun _ h9 => h9) rfl dX6_hasFailed_12 ?_
    refine lv_iload_n hx hb dX6_hasFailed_15 rfl (lv_at hl 1 rfl) ?_
    obtain ⟨g4, hf⟩ := gd_of hf
    refine va_zald hx hb hK.1 (WW_one hR (f := 10) (i := 0) rfl) 0 2 rfl rfl g4 dX6_hasFailed_16 ?_
    refine lv_if_eq (tgt := 24) hx hb dX6_hasFailed_17 (by decide) (fun c5 => ?_) (fun c5 => ?_)
    · have hf := if_of_pos hf c5
      refine lv_iconst (v := 0) hx hb dX6_hasFailed_24 (by decide) ?_
      cases hf
      exact ret_z hC hR hS (by decide) dX6_hasFailed_25
    · have hf := if_of_neg hf c5
      refine lv_iconst (v := 1) hx hb dX6_hasFailed_20 (by decide) ?_
      refine lv_goto (tgt := 25) hx hb dX6_hasFailed_21 (by decide) ?_
      cases hf
      exact ret_z hC hR hS (by decide) dX6_hasFailed_25
def fX6_position (σ : St) (a1 : Int32) (a2 : Int32) : Option (Int32 × St) := bd (fX6_isMember σ a1) (fun q1 => if q1 = 0 then bd (fX6_asks σ 0) (fun q3 => if q3.1 = 0 then some ((0, q3.2)) else gd (vin ((3 * a1) + a2) 15) (some ((gI q3.2 4 0 ((3 * a1) + a2).toNatClampNeg, q3.2)))) else bd (fX6_isProduct σ a2) (fun q6 => if q6 = 0 then bd (fX6_asks σ 0) (fun q8 => if q8.1 = 0 then some ((0, q8.2)) else gd (vin ((3 * a1) + a2) 15) (some ((gI q8.2 4 0 ((3 * a1) + a2).toNatClampNeg, q8.2)))) else bd (fX6_asks σ 1) (fun q11 => if q11.1 = 0 then some ((0, q11.2)) else gd (vin ((3 * a1) + a2) 15) (some ((gI q11.2 4 0 ((3 * a1) + a2).toNatClampNeg, q11.2))))))
set_option maxHeartbeats 4000000 in
set_option maxRecDepth 100000 in
theorem mX6_position (l : Launch) (D : va_G) (dA : Nat → ClassId) (ad : Nat → Nat → Nat) (σ : St) (sz : Nat) (a1 : Int32) (a2 : Int32) (r : Int32) (σ' : St) (hf : fX6_position σ a1 a2 = some (r, σ')) : Met l yX6_position (WSy yX6_position cX6_position 3 (some .int)) ({ frames := 1, cells := 0, slots := 0, locals := 21 } : Room) (va_Pc [.ref (ad 0 0), .int a1, .int a2] (fun U => U.heap.size = sz ∧ HM D dA (fun _ => True) ad σ U.heap ∧ KS D dA U)) (va_Qi (fun (x : Int32) (_ : Unit) => x = r) (fun _ t => HM D dA (WA ad (cvM σ) sz) ad σ' t.heap) (WA ad (cvM σ) sz)) 0 0 (WA ad (cvM σ) sz) := by
  refine met_of (by decide) (Nat.le_of_ble_eq_true rfl) ?_
  intro p e s m below meth c ls hC hB hl
  obtain ⟨rfl, hR, hK⟩ := hB
  have hA : ∀ q : Nat, s.heap.size ≤ q → WA ad (cvM σ) s.heap.size q := fun q h => Or.inr h
  have hR := WW_fit (B := WA ad (cvM σ) s.heap.size) hR (fun f i h => WA_in h)
  have hS : va_S (WA ad (cvM σ) s.heap.size) s.heap s.heap [] := va_S.rf
  generalize WA ad (cvM σ) s.heap.size = A0 at hA hR hS ⊢
  have hC : CTX p s m _ meth c cX6_position 3 RX6 (some .int) := hC
  obtain ⟨hx, hb, hml, hown, hts, hr, hlk⟩ := id hC
  have hl : lv_has ls 3 [(0, .ref (ad 0 0)), (1, .int a1), (2, .int a2)] := hl
  unfold fX6_position at hf
  refine lv_aload_n hx hb dX6_position_0 rfl (lv_at hl 0 rfl) ?_
  refine lv_iload_n hx hb dX6_position_1 rfl (lv_at hl 1 rfl) ?_
  obtain ⟨q1, hcq1, hf⟩ := bd_of hf
  refine kc_i (va_runS (As := [.int a1]) (rest := [.ref (ad 0 0)]) ⟨hx, hb, hml, hown, hts⟩ (mX6_isMember l D dA ad σ _ a1 q1 hcq1) (va_cwS 1 hts gX6_109 rfl rfl rfl (by decide +kernel) ⟨Nat.le_of_ble_eq_true rfl, Nat.le_of_ble_eq_true rfl⟩) (preS_of hR hK _) rfl rfl hl.1 rfl (lv_room (Nat.le_of_ble_eq_true rfl)) dX6_position_2 ⟨Nat.zero_le _, Nat.zero_le _⟩) hA hR hS (fun H locs hR hS => ?_)
  refine lv_if_eq (tgt := 19) hx hb dX6_position_5 (by decide) (fun c2 => ?_) (fun c2 => ?_)
  · have hf := if_of_pos hf c2
    refine lv_iconst (v := 0) hx hb dX6_position_19 (by decide) ?_
    obtain ⟨q3, hcq3, hf⟩ := bd_of hf
    refine kc_i (va_runV (As := [.int 0]) (rest := []) ⟨hx, hb, hml, hown, hts⟩ (mX6_asks l D dA ad σ _ 0 q3.1 q3.2 hcq3) (cwV 1 hts gX6_78 rfl rfl rfl (by decide +kernel) ⟨Nat.le_of_ble_eq_true rfl, Nat.le_of_ble_eq_true rfl⟩) (preV_of hR hK (f := 0) (i := 0) rfl rfl rfl _) rfl rfl hl.1 rfl (lv_room (Nat.le_of_ble_eq_true rfl)) dX6_position_20 ⟨Nat.zero_le _, Nat.zero_le _⟩) hA hR hS (fun H locs hR hS => ?_)
    refine lv_if_eq (tgt := 39) hx hb dX6_position_23 (by decide) (fun c4 => ?_) (fun c4 => ?_)
    · have hf := if_of_pos hf c4
      refine lv_iconst (v := 0) hx hb dX6_position_39 (by decide) ?_
      cases hf
      exact ret_i hC hR hS dX6_position_40
    · have hf := if_of_neg hf c4
      refine lv_aload_n hx hb dX6_position_26 rfl (lv_at hl 0 rfl) ?_
      refine va_get (D := D) (ci := 7) (C := RX6) (T := TX6) (N := 22) hx hb hts iuX6 hown hK.1 (WW_one hR (f := 0) (i := 0) rfl) 0 rfl rfl 3 (by decide) (hts _ q_811) (fun _ h9 => h9) rfl dX6_position_27 ?_
      refine lv_iconst (v := 3) hx hb dX6_position_30 (by decide) ?_
      refine lv_iload_n hx hb dX6_position_31 rfl (lv_at hl 1 rfl) ?_
      refine lv_imul hx hb dX6_position_32 ?_
      refine lv_iload_n hx hb dX6_position_33 rfl (lv_at hl 2 rfl) ?_
      refine lv_iadd hx hb dX6_position_34 ?_
      obtain ⟨g5, hf⟩ := gd_of hf
      refine va_iald hx hb hK.1 (WW_one hR (f := 4) (i := 0) rfl) 0 0 rfl rfl g5 dX6_position_35 ?_
      refine lv_goto (tgt := 40) hx hb dX6_position_36 (by decide) ?_
      cases hf
      exact ret_i hC hR hS dX6_position_40
  · have hf := if_of_neg hf c2
    refine lv_iload_n hx hb dX6_position_8 rfl (lv_at hl 2 rfl) ?_
    obtain ⟨q6, hcq6, hf⟩ := bd_of hf
    refine kc_i (va_runS (As := [.int a2]) (rest := [.ref (ad 0 0)]) ⟨hx, hb, hml, hown, hts⟩ (mX6_isProduct l D dA ad σ _ a2 q6 hcq6) (va_cwS 1 hts gX6_70 rfl rfl rfl (by decide +kernel) ⟨Nat.le_of_ble_eq_true rfl, Nat.le_of_ble_eq_true rfl⟩) (preS_of hR hK _) rfl rfl hl.1 rfl (lv_room (Nat.le_of_ble_eq_true rfl)) dX6_position_9 ⟨Nat.zero_le _, Nat.zero_le _⟩) hA hR hS (fun H locs hR hS => ?_)
    refine lv_if_eq (tgt := 19) hx hb dX6_position_12 (by decide) (fun c7 => ?_) (fun c7 => ?_)
    · have hf := if_of_pos hf c7
      refine lv_iconst (v := 0) hx hb dX6_position_19 (by decide) ?_
      obtain ⟨q8, hcq8, hf⟩ := bd_of hf
      refine kc_i (va_runV (As := [.int 0]) (rest := []) ⟨hx, hb, hml, hown, hts⟩ (mX6_asks l D dA ad σ _ 0 q8.1 q8.2 hcq8) (cwV 1 hts gX6_78 rfl rfl rfl (by decide +kernel) ⟨Nat.le_of_ble_eq_true rfl, Nat.le_of_ble_eq_true rfl⟩) (preV_of hR hK (f := 0) (i := 0) rfl rfl rfl _) rfl rfl hl.1 rfl (lv_room (Nat.le_of_ble_eq_true rfl)) dX6_position_20 ⟨Nat.zero_le _, Nat.zero_le _⟩) hA hR hS (fun H locs hR hS => ?_)
      refine lv_if_eq (tgt := 39) hx hb dX6_position_23 (by decide) (fun c9 => ?_) (fun c9 => ?_)
      · have hf := if_of_pos hf c9
        refine lv_iconst (v := 0) hx hb dX6_position_39 (by decide) ?_
        cases hf
        exact ret_i hC hR hS dX6_position_40
      · have hf := if_of_neg hf c9
        refine lv_aload_n hx hb dX6_position_26 rfl (lv_at hl 0 rfl) ?_
        refine va_get (D := D) (ci := 7) (C := RX6) (T := TX6) (N := 22) hx hb hts iuX6 hown hK.1 (WW_one hR (f := 0) (i := 0) rfl) 0 rfl rfl 3 (by decide) (hts _ q_811) (fun _ h9 => h9) rfl dX6_position_27 ?_
        refine lv_iconst (v := 3) hx hb dX6_position_30 (by decide) ?_
        refine lv_iload_n hx hb dX6_position_31 rfl (lv_at hl 1 rfl) ?_
        refine lv_imul hx hb dX6_position_32 ?_
        refine lv_iload_n hx hb dX6_position_33 rfl (lv_at hl 2 rfl) ?_
        refine lv_iadd hx hb dX6_position_34 ?_
        obtain ⟨g10, hf⟩ := gd_of hf
        refine va_iald hx hb hK.1 (WW_one hR (f := 4) (i := 0) rfl) 0 0 rfl rfl g10 dX6_position_35 ?_
        refine lv_goto (tgt := 40) hx hb dX6_position_36 (by decide) ?_
        cases hf
        exact ret_i hC hR hS dX6_position_40
    · have hf := if_of_neg hf c7
      refine lv_iconst (v := 1) hx hb dX6_position_15 (by decide) ?_
      refine lv_goto (tgt := 20) hx hb dX6_position_16 (by decide) ?_
      obtain ⟨q11, hcq11, hf⟩ := bd_of hf
      refine kc_i (va_runV (As := [.int 1]) (rest := []) ⟨hx, hb, hml, hown, hts⟩ (mX6_asks l D dA ad σ _ 1 q11.1 q11.2 hcq11) (cwV 1 hts gX6_78 rfl rfl rfl (by decide +kernel) ⟨Nat.le_of_ble_eq_true rfl, Nat.le_of_ble_eq_true rfl⟩) (preV_of hR hK (f := 0) (i := 0) rfl rfl rfl _) rfl rfl hl.1 rfl (lv_room (Nat.le_of_ble_eq_true rfl)) dX6_position_20 ⟨Nat.zero_le _, Nat.zero_le _⟩) hA hR hS (fun H locs hR hS => ?_)
      refine lv_if_eq (tgt := 39) hx hb dX6_position_23 (by decide) (fun c12 => ?_) (fun c12 => ?_)
      · have hf := if_of_pos hf c12
        refine lv_iconst (v := 0) hx hb dX6_position_39 (by decide) ?_
        cases hf
        exact ret_i hC hR hS dX6_position_40
      · have hf := if_of_neg hf c12
        refine lv_aload_n hx hb dX6_position_26 rfl (lv_at hl 0 rfl) ?_
        refine va_get (D := D) (ci := 7) (C := RX6) (T := TX6) (N := 22) hx hb hts iuX6 hown hK.1 (WW_one hR (f := 0) (i := 0) rfl) 0 rfl rfl 3 (by decide) (hts _ q_811) (fun _ h9 => h9) rfl dX6_position_27 ?_
        refine lv_iconst (v := 3) hx hb dX6_position_30 (by decide) ?_
        refine lv_iload_n hx hb dX6_position_31 rfl (lv_at hl 1 rfl) ?_
        refine lv_imul hx hb dX6_position_32 ?_
        refine lv_iload_n hx hb dX6_position_33 rfl (lv_at hl 2 rfl) ?_
        refine lv_iadd hx hb dX6_position_34 ?_
        obtain ⟨g13, hf⟩ := gd_of hf
        refine va_iald hx hb hK.1 (WW_one hR (f := 4) (i := 0) rfl) 0 0 rfl rfl g13 dX6_position_35 ?_
        refine lv_goto (tgt := 40) hx hb dX6_position_36 (by decide) ?_
        cases hf
        exact ret_i hC hR hS dX6_position_40
def fX6_cash (σ : St) (a1 : Int32) : Option (Int32 × St) := bd (fX6_isMember σ a1) (fun q1 => bd (fX6_asks σ q1) (fun q2 => if q2.1 = 0 then some ((0, q2.2)) else gd (vin a1 5) (some ((Int64.toInt32 (gL q2.2 6 0 a1.toNatClampNeg), q2.2)))))
set_option maxHeartbeats 4000000 in
set_option maxRecDepth 100000 in
theorem mX6_cash (l : Launch) (D : va_G) (dA : Nat → ClassId) (ad : Nat → Nat → Nat) (σ : St) (sz : Nat) (a1 : Int32) (r : Int32) (σ' : St) (hf : fX6_cash σ a1 = some (r, σ')) : Met l yX6_cash (WSy yX6_cash cX6_cash 2 (some .int)) ({ frames := 1, cells := 0, slots := 0, locals := 21 } : Room) (va_Pc [.ref (ad 0 0), .int a1] (fun U => U.heap.size = sz ∧ HM D dA (fun _ => True) ad σ U.heap ∧ KS D dA U)) (va_Qi (fun (x : Int32) (_ : Unit) => x = r) (fun _ t => HM D dA (WA ad (cvM σ) sz) ad σ' t.heap) (WA ad (cvM σ) sz)) 0 0 (WA ad (cvM σ) sz) := by
  refine met_of (by decide) (Nat.le_of_ble_eq_true rfl) ?_
  intro p e s m below meth c ls hC hB hl
  obtain ⟨rfl, hR, hK⟩ := hB
  have hA : ∀ q : Nat, s.heap.size ≤ q → WA ad (cvM σ) s.heap.size q := fun q h => Or.inr h
  have hR := WW_fit (B := WA ad (cvM σ) s.heap.size) hR (fun f i h => WA_in h)
  have hS : va_S (WA ad (cvM σ) s.heap.size) s.heap s.heap [] := va_S.rf
  generalize WA ad (cvM σ) s.heap.size = A0 at hA hR hS ⊢
  have hC : CTX p s m _ meth c cX6_cash 2 RX6 (some .int) := hC
  obtain ⟨hx, hb, hml, hown, hts, hr, hlk⟩ := id hC
  have hl : lv_has ls 2 [(0, .ref (ad 0 0)), (1, .int a1)] := hl
  unfold fX6_cash at hf
  refine lv_aload_n hx hb dX6_cash_0 rfl (lv_at hl 0 rfl) ?_
  refine lv_iload_n hx hb dX6_cash_1 rfl (lv_at hl 1 rfl) ?_
  obtain ⟨q1, hcq1, hf⟩ := bd_of hf
  refine kc_i (va_runS (As := [.int a1]) (rest := [.ref (ad 0 0)]) ⟨hx, hb, hml, hown, hts⟩ (mX6_isMember l D dA ad σ _ a1 q1 hcq1) (va_cwS 1 hts gX6_109 rfl rfl rfl (by decide +kernel) ⟨Nat.le_of_ble_eq_true rfl, Nat.le_of_ble_eq_true rfl⟩) (preS_of hR hK _) rfl rfl hl.1 rfl (lv_room (Nat.le_of_ble_eq_true rfl)) dX6_cash_2 ⟨Nat.zero_le _, Nat.zero_le _⟩) hA hR hS (fun H locs hR hS => ?_)
  obtain ⟨q2, hcq2, hf⟩ := bd_of hf
  refine kc_i (va_runV (As := [.int q1]) (rest := []) ⟨hx, hb, hml, hown, hts⟩ (mX6_asks l D dA ad σ _ q1 q2.1 q2.2 hcq2) (cwV 1 hts gX6_78 rfl rfl rfl (by decide +kernel) ⟨Nat.le_of_ble_eq_true rfl, Nat.le_of_ble_eq_true rfl⟩) (preV_of hR hK (f := 0) (i := 0) rfl rfl rfl _) rfl rfl hl.1 rfl (lv_room (Nat.le_of_ble_eq_true rfl)) dX6_cash_5 ⟨Nat.zero_le _, Nat.zero_le _⟩) hA hR hS (fun H locs hR hS => ?_)
  refine lv_if_eq (tgt := 21) hx hb dX6_cash_8 (by decide) (fun c3 => ?_) (fun c3 => ?_)
  · have hf := if_of_pos hf c3
    refine lv_iconst (v := 0) hx hb dX6_cash_21 (by decide) ?_
    cases hf
    exact ret_i hC hR hS dX6_cash_22
  · have hf := if_of_neg hf c3
    refine lv_aload_n hx hb dX6_cash_11 rfl (lv_at hl 0 rfl) ?_
    refine va_get (D := D) (ci := 7) (C := RX6) (T := TX6) (N := 22) hx hb hts iuX6 hown hK.1 (WW_one hR (f := 0) (i := 0) rfl) 0 rfl rfl 5 (by decide) (hts _ q_813) (fun _ h9 => h9) rfl dX6_cash_12 ?_
    refine lv_iload_n hx hb dX6_cash_15 rfl (lv_at hl 1 rfl) ?_
    obtain ⟨g4, hf⟩ := gd_of hf
    refine va_lald hx hb hK.1 (WW_one hR (f := 6) (i := 0) rfl) 0 1 rfl rfl g4 dX6_cash_16 ?_
    refine lv_l2i hx hb dX6_cash_17 rfl ?_
    refine lv_goto (tgt := 22) hx hb dX6_cash_18 (by decide) ?_
    cases hf
    exact ret_i hC hR hS dX6_cash_22
def fX6_equity (σ : St) (a1 : Int32) : Option (Int32 × St) := bd (fX6_isMember σ a1) (fun q1 => bd (fX6_asks σ q1) (fun q2 => if q2.1 = 0 then some ((0, q2.2)) else bd (fX6_equityOf q2.2 a1) (fun q4 => some ((Int64.toInt32 q4, q2.2)))))
set_option maxHeartbeats 4000000 in
set_option maxRecDepth 100000 in
theorem mX6_equity (l : Launch) (D : va_G) (dA : Nat → ClassId) (ad : Nat → Nat → Nat) (σ : St) (sz : Nat) (a1 : Int32) (r : Int32) (σ' : St) (hf : fX6_equity σ a1 = some (r, σ')) : Met l yX6_equity (WSy yX6_equity cX6_equity 2 (some .int)) ({ frames := 2, cells := 0, slots := 0, locals := 46 } : Room) (va_Pc [.ref (ad 0 0), .int a1] (fun U => U.heap.size = sz ∧ HM D dA (fun _ => True) ad σ U.heap ∧ KS D dA U)) (va_Qi (fun (x : Int32) (_ : Unit) => x = r) (fun _ t => HM D dA (WA ad (cvM σ) sz) ad σ' t.heap) (WA ad (cvM σ) sz)) 0 0 (WA ad (cvM σ) sz) := by
  refine met_of (by decide) (Nat.le_of_ble_eq_true rfl) ?_
  intro p e s m below meth c ls hC hB hl
  obtain ⟨rfl, hR, hK⟩ := hB
  have hA : ∀ q : Nat, s.heap.size ≤ q → WA ad (cvM σ) s.heap.size q := fun q h => Or.inr h
  have hR := WW_fit (B := WA ad (cvM σ) s.heap.size) hR (fun f i h => WA_in h)
  have hS : va_S (WA ad (cvM σ) s.heap.size) s.heap s.heap [] := va_S.rf
  generalize WA ad (cvM σ) s.heap.size = A0 at hA hR hS ⊢
  have hC : CTX p s m _ meth c cX6_equity 2 RX6 (some .int) := hC
  obtain ⟨hx, hb, hml, hown, hts, hr, hlk⟩ := id hC
  have hl : lv_has ls 2 [(0, .ref (ad 0 0)), (1, .int a1)] := hl
  unfold fX6_equity at hf
  refine lv_aload_n hx hb dX6_equity_0 rfl (lv_at hl 0 rfl) ?_
  refine lv_iload_n hx hb dX6_equity_1 rfl (lv_at hl 1 rfl) ?_
  obtain ⟨q1, hcq1, hf⟩ := bd_of hf
  refine kc_i (va_runS (As := [.int a1]) (rest := [.ref (ad 0 0)]) ⟨hx, hb, hml, hown, hts⟩ (mX6_isMember l D dA ad σ _ a1 q1 hcq1) (va_cwS 1 hts gX6_109 rfl rfl rfl (by decide +kernel) ⟨Nat.le_of_ble_eq_true rfl, Nat.le_of_ble_eq_true rfl⟩) (preS_of hR hK _) rfl rfl hl.1 rfl (lv_room (Nat.le_of_ble_eq_true rfl)) dX6_equity_2 ⟨Nat.zero_le _, Nat.zero_le _⟩) hA hR hS (fun H locs hR hS => ?_)
  obtain ⟨q2, hcq2, hf⟩ := bd_of hf
  refine kc_i (va_runV (As := [.int q1]) (rest := []) ⟨hx, hb, hml, hown, hts⟩ (mX6_asks l D dA ad σ _ q1 q2.1 q2.2 hcq2) (cwV 1 hts gX6_78 rfl rfl rfl (by decide +kernel) ⟨Nat.le_of_ble_eq_true rfl, Nat.le_of_ble_eq_true rfl⟩) (preV_of hR hK (f := 0) (i := 0) rfl rfl rfl _) rfl rfl hl.1 rfl (lv_room (Nat.le_of_ble_eq_true rfl)) dX6_equity_5 ⟨Nat.zero_le _, Nat.zero_le _⟩) hA hR hS (fun H locs hR hS => ?_)
  refine lv_if_eq (tgt := 20) hx hb dX6_equity_8 (by decide) (fun c3 => ?_) (fun c3 => ?_)
  · have hf := if_of_pos hf c3
    refine lv_iconst (v := 0) hx hb dX6_equity_20 (by decide) ?_
    cases hf
    exact ret_i hC hR hS dX6_equity_21
  · have hf := if_of_neg hf c3
    refine lv_aload_n hx hb dX6_equity_11 rfl (lv_at hl 0 rfl) ?_
    refine lv_iload_n hx hb dX6_equity_12 rfl (lv_at hl 1 rfl) ?_
    obtain ⟨q4, hcq4, hf⟩ := bd_of hf
    refine kc_l (va_runV (As := [.int a1]) (rest := []) ⟨hx, hb, hml, hown, hts⟩ (mX6_equityOf l D dA ad q2.2 _ a1 q4 hcq4) (cwV 1 hts gX6_99 rfl rfl rfl (by decide +kernel) ⟨Nat.le_of_ble_eq_true rfl, Nat.le_of_ble_eq_true rfl⟩) (preV_of hR hK (f := 0) (i := 0) rfl rfl rfl _) rfl rfl hl.1 rfl (lv_room (Nat.le_of_ble_eq_true rfl)) dX6_equity_13 ⟨Nat.zero_le _, Nat.zero_le _⟩) hA hR hS (fun H locs hR hS => ?_)
    refine lv_l2i hx hb dX6_equity_16 rfl ?_
    refine lv_goto (tgt := 21) hx hb dX6_equity_17 (by decide) ?_
    cases hf
    exact ret_i hC hR hS dX6_equity_21
def fX6_equityByTrades (σ : St) (a1 : Int32) : Option (Int32 × St) := bd (fX6_isMember σ a1) (fun q1 => bd (fX6_asks σ q1) (fun q2 => if q2.1 = 0 then some ((0, q2.2)) else bd (fX6_equityOf q2.2 a1) (fun q4 => some ((Int64.toInt32 q4, q2.2)))))
set_option maxHeartbeats 4000000 in
set_option maxRecDepth 100000 in
theorem mX6_equityByTrades (l : Launch) (D : va_G) (dA : Nat → ClassId) (ad : Nat → Nat → Nat) (σ : St) (sz : Nat) (a1 : Int32) (r : Int32) (σ' : St) (hf : fX6_equityByTrades σ a1 = some (r, σ')) : Met l yX6_equityByTrades (WSy yX6_equityByTrades cX6_equityByTrades 2 (some .int)) ({ frames := 2, cells := 0, slots := 0, locals := 46 } : Room) (va_Pc [.ref (ad 0 0), .int a1] (fun U => U.heap.size = sz ∧ HM D dA (fun _ => True) ad σ U.heap ∧ KS D dA U)) (va_Qi (fun (x : Int32) (_ : Unit) => x = r) (fun _ t => HM D dA (WA ad (cvM σ) sz) ad σ' t.heap) (WA ad (cvM σ) sz)) 0 0 (WA ad (cvM σ) sz) := by
  refine met_of (by decide) (Nat.le_of_ble_eq_true rfl) ?_
  intro p e s m below meth c ls hC hB hl
  obtain ⟨rfl, hR, hK⟩ := hB
  have hA : ∀ q : Nat, s.heap.size ≤ q → WA ad (cvM σ) s.heap.size q := fun q h => Or.inr h
  have hR := WW_fit (B := WA ad (cvM σ) s.heap.size) hR (fun f i h => WA_in h)
  have hS : va_S (WA ad (cvM σ) s.heap.size) s.heap s.heap [] := va_S.rf
  generalize WA ad (cvM σ) s.heap.size = A0 at hA hR hS ⊢
  have hC : CTX p s m _ meth c cX6_equityByTrades 2 RX6 (some .int) := hC
  obtain ⟨hx, hb, hml, hown, hts, hr, hlk⟩ := id hC
  have hl : lv_has ls 2 [(0, .ref (ad 0 0)), (1, .int a1)] := hl
  unfold fX6_equityByTrades at hf
  refine lv_aload_n hx hb dX6_equityByTrades_0 rfl (lv_at hl 0 rfl) ?_
  refine lv_iload_n hx hb dX6_equityByTrades_1 rfl (lv_at hl 1 rfl) ?_
  obtain ⟨q1, hcq1, hf⟩ := bd_of hf
  refine kc_i (va_runS (As := [.int a1]) (rest := [.ref (ad 0 0)]) ⟨hx, hb, hml, hown, hts⟩ (mX6_isMember l D dA ad σ _ a1 q1 hcq1) (va_cwS 1 hts gX6_109 rfl rfl rfl (by decide +kernel) ⟨Nat.le_of_ble_eq_true rfl, Nat.le_of_ble_eq_true rfl⟩) (preS_of hR hK _) rfl rfl hl.1 rfl (lv_room (Nat.le_of_ble_eq_true rfl)) dX6_equityByTrades_2 ⟨Nat.zero_le _, Nat.zero_le _⟩) hA hR hS (fun H locs hR hS => ?_)
  obtain ⟨q2, hcq2, hf⟩ := bd_of hf
  refine kc_i (va_runV (As := [.int q1]) (rest := []) ⟨hx, hb, hml, hown, hts⟩ (mX6_asks l D dA ad σ _ q1 q2.1 q2.2 hcq2) (cwV 1 hts gX6_78 rfl rfl rfl (by decide +kernel) ⟨Nat.le_of_ble_eq_true rfl, Nat.le_of_ble_eq_true rfl⟩) (preV_of hR hK (f := 0) (i := 0) rfl rfl rfl _) rfl rfl hl.1 rfl (lv_room (Nat.le_of_ble_eq_true rfl)) dX6_equityByTrades_5 ⟨Nat.zero_le _, Nat.zero_le _⟩) hA hR hS (fun H locs hR hS => ?_)
  refine lv_if_eq (tgt := 20) hx hb dX6_equityByTrades_8 (by decide) (fun c3 => ?_) (fun c3 => ?_)
  · have hf := if_of_pos hf c3
    refine lv_iconst (v := 0) hx hb dX6_equityByTrades_20 (by decide) ?_
    cases hf
    exact ret_i hC hR hS dX6_equityByTrades_21
  · have hf := if_of_neg hf c3
    refine lv_aload_n hx hb dX6_equityByTrades_11 rfl (lv_at hl 0 rfl) ?_
    refine lv_iload_n hx hb dX6_equityByTrades_12 rfl (lv_at hl 1 rfl) ?_
    obtain ⟨q4, hcq4, hf⟩ := bd_of hf
    refine kc_l (va_runV (As := [.int a1]) (rest := []) ⟨hx, hb, hml, hown, hts⟩ (mX6_equityOf l D dA ad q2.2 _ a1 q4 hcq4) (cwV 1 hts gX6_99 rfl rfl rfl (by decide +kernel) ⟨Nat.le_of_ble_eq_true rfl, Nat.le_of_ble_eq_true rfl⟩) (preV_of hR hK (f := 0) (i := 0) rfl rfl rfl _) rfl rfl hl.1 rfl (lv_room (Nat.le_of_ble_eq_true rfl)) dX6_equityByTrades_13 ⟨Nat.zero_le _, Nat.zero_le _⟩) hA hR hS (fun H locs hR hS => ?_)
    refine lv_l2i hx hb dX6_equityByTrades_16 rfl ?_
    refine lv_goto (tgt := 21) hx hb dX6_equityByTrades_17 (by decide) ?_
    cases hf
    exact ret_i hC hR hS dX6_equityByTrades_21
def fX6_margin (σ : St) (a1 : Int32) : Option (Int32 × St) := bd (fX6_isMember σ a1) (fun q1 => bd (fX6_asks σ q1) (fun q2 => if q2.1 = 0 then some ((0, q2.2)) else bd (fX6_marginOf q2.2 a1) (fun q4 => some ((q4, q2.2)))))
set_option maxHeartbeats 4000000 in
set_option maxRecDepth 100000 in
theorem mX6_margin (l : Launch) (D : va_G) (dA : Nat → ClassId) (ad : Nat → Nat → Nat) (σ : St) (sz : Nat) (a1 : Int32) (r : Int32) (σ' : St) (hf : fX6_margin σ a1 = some (r, σ')) : Met l yX6_margin (WSy yX6_margin cX6_margin 2 (some .int)) ({ frames := 2, cells := 0, slots := 0, locals := 53 } : Room) (va_Pc [.ref (ad 0 0), .int a1] (fun U => U.heap.size = sz ∧ HM D dA (fun _ => True) ad σ U.heap ∧ KS D dA U)) (va_Qi (fun (x : Int32) (_ : Unit) => x = r) (fun _ t => HM D dA (WA ad (cvM σ) sz) ad σ' t.heap) (WA ad (cvM σ) sz)) 0 0 (WA ad (cvM σ) sz) := by
  refine met_of (by decide) (Nat.le_of_ble_eq_true rfl) ?_
  intro p e s m below meth c ls hC hB hl
  obtain ⟨rfl, hR, hK⟩ := hB
  have hA : ∀ q : Nat, s.heap.size ≤ q → WA ad (cvM σ) s.heap.size q := fun q h => Or.inr h
  have hR := WW_fit (B := WA ad (cvM σ) s.heap.size) hR (fun f i h => WA_in h)
  have hS : va_S (WA ad (cvM σ) s.heap.size) s.heap s.heap [] := va_S.rf
  generalize WA ad (cvM σ) s.heap.size = A0 at hA hR hS ⊢
  have hC : CTX p s m _ meth c cX6_margin 2 RX6 (some .int) := hC
  obtain ⟨hx, hb, hml, hown, hts, hr, hlk⟩ := id hC
  have hl : lv_has ls 2 [(0, .ref (ad 0 0)), (1, .int a1)] := hl
  unfold fX6_margin at hf
  refine lv_aload_n hx hb dX6_margin_0 rfl (lv_at hl 0 rfl) ?_
  refine lv_iload_n hx hb dX6_margin_1 rfl (lv_at hl 1 rfl) ?_
  obtain ⟨q1, hcq1, hf⟩ := bd_of hf
  refine kc_i (va_runS (As := [.int a1]) (rest := [.ref (ad 0 0)]) ⟨hx, hb, hml, hown, hts⟩ (mX6_isMember l D dA ad σ _ a1 q1 hcq1) (va_cwS 1 hts gX6_109 rfl rfl rfl (by decide +kernel) ⟨Nat.le_of_ble_eq_true rfl, Nat.le_of_ble_eq_true rfl⟩) (preS_of hR hK _) rfl rfl hl.1 rfl (lv_room (Nat.le_of_ble_eq_true rfl)) dX6_margin_2 ⟨Nat.zero_le _, Nat.zero_le _⟩) hA hR hS (fun H locs hR hS => ?_)
  obtain ⟨q2, hcq2, hf⟩ := bd_of hf
  refine kc_i (va_runV (As := [.int q1]) (rest := []) ⟨hx, hb, hml, hown, hts⟩ (mX6_asks l D dA ad σ _ q1 q2.1 q2.2 hcq2) (cwV 1 hts gX6_78 rfl rfl rfl (by decide +kernel) ⟨Nat.le_of_ble_eq_true rfl, Nat.le_of_ble_eq_true rfl⟩) (preV_of hR hK (f := 0) (i := 0) rfl rfl rfl _) rfl rfl hl.1 rfl (lv_room (Nat.le_of_ble_eq_true rfl)) dX6_margin_5 ⟨Nat.zero_le _, Nat.zero_le _⟩) hA hR hS (fun H locs hR hS => ?_)
  refine lv_if_eq (tgt := 19) hx hb dX6_margin_8 (by decide) (fun c3 => ?_) (fun c3 => ?_)
  · have hf := if_of_pos hf c3
    refine lv_iconst (v := 0) hx hb dX6_margin_19 (by decide) ?_
    cases hf
    exact ret_i hC hR hS dX6_margin_20
  · have hf := if_of_neg hf c3
    refine lv_aload_n hx hb dX6_margin_11 rfl (lv_at hl 0 rfl) ?_
    refine lv_iload_n hx hb dX6_margin_12 rfl (lv_at hl 1 rfl) ?_
    obtain ⟨q4, hcq4, hf⟩ := bd_of hf
    refine kc_i (va_runV (As := [.int a1]) (rest := []) ⟨hx, hb, hml, hown, hts⟩ (mX6_marginOf l D dA ad q2.2 _ a1 q4 hcq4) (cwV 1 hts gX6_106 rfl rfl rfl (by decide +kernel) ⟨Nat.le_of_ble_eq_true rfl, Nat.le_of_ble_eq_true rfl⟩) (preV_of hR hK (f := 0) (i := 0) rfl rfl rfl _) rfl rfl hl.1 rfl (lv_room (Nat.le_of_ble_eq_true rfl)) dX6_margin_13 ⟨Nat.zero_le _, Nat.zero_le _⟩) hA hR hS (fun H locs hR hS => ?_)
    refine lv_goto (tgt := 20) hx hb dX6_margin_16 (by decide) ?_
    cases hf
    exact ret_i hC hR hS dX6_margin_20
def fX6_haircut (σ : St) (a1 : Int32) : Option (Int32 × St) := bd (fX6_in σ a1 0 1) (fun q1 => bd (fX6_asks σ q1) (fun q2 => if q2.1 = 0 then some ((0, q2.2)) else bd (fX6_haircutOf q2.2 a1) (fun q4 => some ((q4, q2.2)))))
set_option maxHeartbeats 4000000 in
set_option maxRecDepth 100000 in
theorem mX6_haircut (l : Launch) (D : va_G) (dA : Nat → ClassId) (ad : Nat → Nat → Nat) (σ : St) (sz : Nat) (a1 : Int32) (r : Int32) (σ' : St) (hf : fX6_haircut σ a1 = some (r, σ')) : Met l yX6_haircut (WSy yX6_haircut cX6_haircut 2 (some .int)) ({ frames := 1, cells := 0, slots := 0, locals := 25 } : Room) (va_Pc [.ref (ad 0 0), .int a1] (fun U => U.heap.size = sz ∧ HM D dA (fun _ => True) ad σ U.heap ∧ KS D dA U)) (va_Qi (fun (x : Int32) (_ : Unit) => x = r) (fun _ t => HM D dA (WA ad (cvM σ) sz) ad σ' t.heap) (WA ad (cvM σ) sz)) 0 0 (WA ad (cvM σ) sz) := by
  refine met_of (by decide) (Nat.le_of_ble_eq_true rfl) ?_
  intro p e s m below meth c ls hC hB hl
  obtain ⟨rfl, hR, hK⟩ := hB
  have hA : ∀ q : Nat, s.heap.size ≤ q → WA ad (cvM σ) s.heap.size q := fun q h => Or.inr h
  have hR := WW_fit (B := WA ad (cvM σ) s.heap.size) hR (fun f i h => WA_in h)
  have hS : va_S (WA ad (cvM σ) s.heap.size) s.heap s.heap [] := va_S.rf
  generalize WA ad (cvM σ) s.heap.size = A0 at hA hR hS ⊢
  have hC : CTX p s m _ meth c cX6_haircut 2 RX6 (some .int) := hC
  obtain ⟨hx, hb, hml, hown, hts, hr, hlk⟩ := id hC
  have hl : lv_has ls 2 [(0, .ref (ad 0 0)), (1, .int a1)] := hl
  unfold fX6_haircut at hf
  refine lv_aload_n hx hb dX6_haircut_0 rfl (lv_at hl 0 rfl) ?_
  refine lv_iload_n hx hb dX6_haircut_1 rfl (lv_at hl 1 rfl) ?_
  refine lv_iconst (v := 0) hx hb dX6_haircut_2 (by decide) ?_
  refine lv_iconst (v := 1) hx hb dX6_haircut_3 (by decide) ?_
  obtain ⟨q1, hcq1, hf⟩ := bd_of hf
  refine kc_i (va_runS (As := [.int a1, .int 0, .int 1]) (rest := [.ref (ad 0 0)]) ⟨hx, hb, hml, hown, hts⟩ (mX6_in l D dA ad σ _ a1 0 1 q1 hcq1) (va_cwS 3 hts gX6_74 rfl rfl rfl (by decide +kernel) ⟨Nat.le_of_ble_eq_true rfl, Nat.le_of_ble_eq_true rfl⟩) (preS_of hR hK _) rfl rfl hl.1 rfl (lv_room (Nat.le_of_ble_eq_true rfl)) dX6_haircut_4 ⟨Nat.zero_le _, Nat.zero_le _⟩) hA hR hS (fun H locs hR hS => ?_)
  obtain ⟨q2, hcq2, hf⟩ := bd_of hf
  refine kc_i (va_runV (As := [.int q1]) (rest := []) ⟨hx, hb, hml, hown, hts⟩ (mX6_asks l D dA ad σ _ q1 q2.1 q2.2 hcq2) (cwV 1 hts gX6_78 rfl rfl rfl (by decide +kernel) ⟨Nat.le_of_ble_eq_true rfl, Nat.le_of_ble_eq_true rfl⟩) (preV_of hR hK (f := 0) (i := 0) rfl rfl rfl _) rfl rfl hl.1 rfl (lv_room (Nat.le_of_ble_eq_true rfl)) dX6_haircut_7 ⟨Nat.zero_le _, Nat.zero_le _⟩) hA hR hS (fun H locs hR hS => ?_)
  refine lv_if_eq (tgt := 21) hx hb dX6_haircut_10 (by decide) (fun c3 => ?_) (fun c3 => ?_)
  · have hf := if_of_pos hf c3
    refine lv_iconst (v := 0) hx hb dX6_haircut_21 (by decide) ?_
    cases hf
    exact ret_i hC hR hS dX6_haircut_22
  · have hf := if_of_neg hf c3
    refine lv_aload_n hx hb dX6_haircut_13 rfl (lv_at hl 0 rfl) ?_
    refine lv_iload_n hx hb dX6_haircut_14 rfl (lv_at hl 1 rfl) ?_
    obtain ⟨q4, hcq4, hf⟩ := bd_of hf
    refine kc_i (va_runV (As := [.int a1]) (rest := []) ⟨hx, hb, hml, hown, hts⟩ (mX6_haircutOf l D dA ad q2.2 _ a1 q4 hcq4) (cwV 1 hts gX6_82 rfl rfl rfl (by decide +kernel) ⟨Nat.le_of_ble_eq_true rfl, Nat.le_of_ble_eq_true rfl⟩) (preV_of hR hK (f := 0) (i := 0) rfl rfl rfl _) rfl rfl hl.1 rfl (lv_room (Nat.le_of_ble_eq_true rfl)) dX6_haircut_15 ⟨Nat.zero_le _, Nat.zero_le _⟩) hA hR hS (fun H locs hR hS => ?_)
    refine lv_goto (tgt := 22) hx hb dX6_haircut_18 (by decide) ?_
    cases hf
    exact ret_i hC hR hS dX6_haircut_22
def fX6_collateral (σ : St) (a1 : Int32) : Option (Int32 × St) := bd (fX6_isMember σ a1) (fun q1 => bd (fX6_asks σ q1) (fun q2 => if q2.1 = 0 then some ((0, q2.2)) else bd (fX6_collateralOf q2.2 a1) (fun q4 => some ((Int64.toInt32 q4, q2.2)))))
set_option maxHeartbeats 4000000 in
set_option maxRecDepth 100000 in
theorem mX6_collateral (l : Launch) (D : va_G) (dA : Nat → ClassId) (ad : Nat → Nat → Nat) (σ : St) (sz : Nat) (a1 : Int32) (r : Int32) (σ' : St) (hf : fX6_collateral σ a1 = some (r, σ')) : Met l yX6_collateral (WSy yX6_collateral cX6_collateral 2 (some .int)) ({ frames := 2, cells := 0, slots := 0, locals := 49 } : Room) (va_Pc [.ref (ad 0 0), .int a1] (fun U => U.heap.size = sz ∧ HM D dA (fun _ => True) ad σ U.heap ∧ KS D dA U)) (va_Qi (fun (x : Int32) (_ : Unit) => x = r) (fun _ t => HM D dA (WA ad (cvM σ) sz) ad σ' t.heap) (WA ad (cvM σ) sz)) 0 0 (WA ad (cvM σ) sz) := by
  refine met_of (by decide) (Nat.le_of_ble_eq_true rfl) ?_
  intro p e s m below meth c ls hC hB hl
  obtain ⟨rfl, hR, hK⟩ := hB
  have hA : ∀ q : Nat, s.heap.size ≤ q → WA ad (cvM σ) s.heap.size q := fun q h => Or.inr h
  have hR := WW_fit (B := WA ad (cvM σ) s.heap.size) hR (fun f i h => WA_in h)
  have hS : va_S (WA ad (cvM σ) s.heap.size) s.heap s.heap [] := va_S.rf
  generalize WA ad (cvM σ) s.heap.size = A0 at hA hR hS ⊢
  have hC : CTX p s m _ meth c cX6_collateral 2 RX6 (some .int) := hC
  obtain ⟨hx, hb, hml, hown, hts, hr, hlk⟩ := id hC
  have hl : lv_has ls 2 [(0, .ref (ad 0 0)), (1, .int a1)] := hl
  unfold fX6_collateral at hf
  refine lv_aload_n hx hb dX6_collateral_0 rfl (lv_at hl 0 rfl) ?_
  refine lv_iload_n hx hb dX6_collateral_1 rfl (lv_at hl 1 rfl) ?_
  obtain ⟨q1, hcq1, hf⟩ := bd_of hf
  refine kc_i (va_runS (As := [.int a1]) (rest := [.ref (ad 0 0)]) ⟨hx, hb, hml, hown, hts⟩ (mX6_isMember l D dA ad σ _ a1 q1 hcq1) (va_cwS 1 hts gX6_109 rfl rfl rfl (by decide +kernel) ⟨Nat.le_of_ble_eq_true rfl, Nat.le_of_ble_eq_true rfl⟩) (preS_of hR hK _) rfl rfl hl.1 rfl (lv_room (Nat.le_of_ble_eq_true rfl)) dX6_collateral_2 ⟨Nat.zero_le _, Nat.zero_le _⟩) hA hR hS (fun H locs hR hS => ?_)
  obtain ⟨q2, hcq2, hf⟩ := bd_of hf
  refine kc_i (va_runV (As := [.int q1]) (rest := []) ⟨hx, hb, hml, hown, hts⟩ (mX6_asks l D dA ad σ _ q1 q2.1 q2.2 hcq2) (cwV 1 hts gX6_78 rfl rfl rfl (by decide +kernel) ⟨Nat.le_of_ble_eq_true rfl, Nat.le_of_ble_eq_true rfl⟩) (preV_of hR hK (f := 0) (i := 0) rfl rfl rfl _) rfl rfl hl.1 rfl (lv_room (Nat.le_of_ble_eq_true rfl)) dX6_collateral_5 ⟨Nat.zero_le _, Nat.zero_le _⟩) hA hR hS (fun H locs hR hS => ?_)
  refine lv_if_eq (tgt := 20) hx hb dX6_collateral_8 (by decide) (fun c3 => ?_) (fun c3 => ?_)
  · have hf := if_of_pos hf c3
    refine lv_iconst (v := 0) hx hb dX6_collateral_20 (by decide) ?_
    cases hf
    exact ret_i hC hR hS dX6_collateral_21
  · have hf := if_of_neg hf c3
    refine lv_aload_n hx hb dX6_collateral_11 rfl (lv_at hl 0 rfl) ?_
    refine lv_iload_n hx hb dX6_collateral_12 rfl (lv_at hl 1 rfl) ?_
    obtain ⟨q4, hcq4, hf⟩ := bd_of hf
    refine kc_l (va_runV (As := [.int a1]) (rest := []) ⟨hx, hb, hml, hown, hts⟩ (mX6_collateralOf l D dA ad q2.2 _ a1 q4 hcq4) (cwV 1 hts gX6_103 rfl rfl rfl (by decide +kernel) ⟨Nat.le_of_ble_eq_true rfl, Nat.le_of_ble_eq_true rfl⟩) (preV_of hR hK (f := 0) (i := 0) rfl rfl rfl _) rfl rfl hl.1 rfl (lv_room (Nat.le_of_ble_eq_true rfl)) dX6_collateral_13 ⟨Nat.zero_le _, Nat.zero_le _⟩) hA hR hS (fun H locs hR hS => ?_)
    refine lv_l2i hx hb dX6_collateral_16 rfl ?_
    refine lv_goto (tgt := 21) hx hb dX6_collateral_17 (by decide) ?_
    cases hf
    exact ret_i hC hR hS dX6_collateral_21
def fX6_free (σ : St) (a1 : Int32) : Option (Int32 × St) := bd (fX6_isMember σ a1) (fun q1 => bd (fX6_asks σ q1) (fun q2 => if q2.1 = 0 then some ((0, q2.2)) else bd (fX6_freeOf q2.2 a1) (fun q4 => some ((Int64.toInt32 q4, q2.2)))))
set_option maxHeartbeats 4000000 in
set_option maxRecDepth 100000 in
theorem mX6_free (l : Launch) (D : va_G) (dA : Nat → ClassId) (ad : Nat → Nat → Nat) (σ : St) (sz : Nat) (a1 : Int32) (r : Int32) (σ' : St) (hf : fX6_free σ a1 = some (r, σ')) : Met l yX6_free (WSy yX6_free cX6_free 2 (some .int)) ({ frames := 3, cells := 0, slots := 0, locals := 74 } : Room) (va_Pc [.ref (ad 0 0), .int a1] (fun U => U.heap.size = sz ∧ HM D dA (fun _ => True) ad σ U.heap ∧ KS D dA U)) (va_Qi (fun (x : Int32) (_ : Unit) => x = r) (fun _ t => HM D dA (WA ad (cvM σ) sz) ad σ' t.heap) (WA ad (cvM σ) sz)) 0 0 (WA ad (cvM σ) sz) := by
  refine met_of (by decide) (Nat.le_of_ble_eq_true rfl) ?_
  intro p e s m below meth c ls hC hB hl
  obtain ⟨rfl, hR, hK⟩ := hB
  have hA : ∀ q : Nat, s.heap.size ≤ q → WA ad (cvM σ) s.heap.size q := fun q h => Or.inr h
  have hR := WW_fit (B := WA ad (cvM σ) s.heap.size) hR (fun f i h => WA_in h)
  have hS : va_S (WA ad (cvM σ) s.heap.size) s.heap s.heap [] := va_S.rf
  generalize WA ad (cvM σ) s.heap.size = A0 at hA hR hS ⊢
  have hC : CTX p s m _ meth c cX6_free 2 RX6 (some .int) := hC
  obtain ⟨hx, hb, hml, hown, hts, hr, hlk⟩ := id hC
  have hl : lv_has ls 2 [(0, .ref (ad 0 0)), (1, .int a1)] := hl
  unfold fX6_free at hf
  refine lv_aload_n hx hb dX6_free_0 rfl (lv_at hl 0 rfl) ?_
  refine lv_iload_n hx hb dX6_free_1 rfl (lv_at hl 1 rfl) ?_
  obtain ⟨q1, hcq1, hf⟩ := bd_of hf
  refine kc_i (va_runS (As := [.int a1]) (rest := [.ref (ad 0 0)]) ⟨hx, hb, hml, hown, hts⟩ (mX6_isMember l D dA ad σ _ a1 q1 hcq1) (va_cwS 1 hts gX6_109 rfl rfl rfl (by decide +kernel) ⟨Nat.le_of_ble_eq_true rfl, Nat.le_of_ble_eq_true rfl⟩) (preS_of hR hK _) rfl rfl hl.1 rfl (lv_room (Nat.le_of_ble_eq_true rfl)) dX6_free_2 ⟨Nat.zero_le _, Nat.zero_le _⟩) hA hR hS (fun H locs hR hS => ?_)
  obtain ⟨q2, hcq2, hf⟩ := bd_of hf
  refine kc_i (va_runV (As := [.int q1]) (rest := []) ⟨hx, hb, hml, hown, hts⟩ (mX6_asks l D dA ad σ _ q1 q2.1 q2.2 hcq2) (cwV 1 hts gX6_78 rfl rfl rfl (by decide +kernel) ⟨Nat.le_of_ble_eq_true rfl, Nat.le_of_ble_eq_true rfl⟩) (preV_of hR hK (f := 0) (i := 0) rfl rfl rfl _) rfl rfl hl.1 rfl (lv_room (Nat.le_of_ble_eq_true rfl)) dX6_free_5 ⟨Nat.zero_le _, Nat.zero_le _⟩) hA hR hS (fun H locs hR hS => ?_)
  refine lv_if_eq (tgt := 20) hx hb dX6_free_8 (by decide) (fun c3 => ?_) (fun c3 => ?_)
  · have hf := if_of_pos hf c3
    refine lv_iconst (v := 0) hx hb dX6_free_20 (by decide) ?_
    cases hf
    exact ret_i hC hR hS dX6_free_21
  · have hf := if_of_neg hf c3
    refine lv_aload_n hx hb dX6_free_11 rfl (lv_at hl 0 rfl) ?_
    refine lv_iload_n hx hb dX6_free_12 rfl (lv_at hl 1 rfl) ?_
    obtain ⟨q4, hcq4, hf⟩ := bd_of hf
    refine kc_l (va_runV (As := [.int a1]) (rest := []) ⟨hx, hb, hml, hown, hts⟩ (mX6_freeOf l D dA ad q2.2 _ a1 q4 hcq4) (cwV 1 hts gX6_114 rfl rfl rfl (by decide +kernel) ⟨Nat.le_of_ble_eq_true rfl, Nat.le_of_ble_eq_true rfl⟩) (preV_of hR hK (f := 0) (i := 0) rfl rfl rfl _) rfl rfl hl.1 rfl (lv_room (Nat.le_of_ble_eq_true rfl)) dX6_free_13 ⟨Nat.zero_le _, Nat.zero_le _⟩) hA hR hS (fun H locs hR hS => ?_)
    refine lv_l2i hx hb dX6_free_16 rfl ?_
    refine lv_goto (tgt := 21) hx hb dX6_free_17 (by decide) ?_
    cases hf
    exact ret_i hC hR hS dX6_free_21
def fX6_share (σ : St) (a1 : Int32) : Option (Int32 × St) := bd (fX6_isMember σ a1) (fun q1 => bd (fX6_asks σ q1) (fun q2 => if q2.1 = 0 then some ((0, q2.2)) else gd (vin a1 5) (some ((Int64.toInt32 (gL q2.2 8 0 a1.toNatClampNeg), q2.2)))))
set_option maxHeartbeats 4000000 in
set_option maxRecDepth 100000 in
theorem mX6_share (l : Launch) (D : va_G) (dA : Nat → ClassId) (ad : Nat → Nat → Nat) (σ : St) (sz : Nat) (a1 : Int32) (r : Int32) (σ' : St) (hf : fX6_share σ a1 = some (r, σ')) : Met l yX6_share (WSy yX6_share cX6_share 2 (some .int)) ({ frames := 1, cells := 0, slots := 0, locals := 21 } : Room) (va_Pc [.ref (ad 0 0), .int a1] (fun U => U.heap.size = sz ∧ HM D dA (fun _ => True) ad σ U.heap ∧ KS D dA U)) (va_Qi (fun (x : Int32) (_ : Unit) => x = r) (fun _ t => HM D dA (WA ad (cvM σ) sz) ad σ' t.heap) (WA ad (cvM σ) sz)) 0 0 (WA ad (cvM σ) sz) := by
  refine met_of (by decide) (Nat.le_of_ble_eq_true rfl) ?_
  intro p e s m below meth c ls hC hB hl
  obtain ⟨rfl, hR, hK⟩ := hB
  have hA : ∀ q : Nat, s.heap.size ≤ q → WA ad (cvM σ) s.heap.size q := fun q h => Or.inr h
  have hR := WW_fit (B := WA ad (cvM σ) s.heap.size) hR (fun f i h => WA_in h)
  have hS : va_S (WA ad (cvM σ) s.heap.size) s.heap s.heap [] := va_S.rf
  generalize WA ad (cvM σ) s.heap.size = A0 at hA hR hS ⊢
  have hC : CTX p s m _ meth c cX6_share 2 RX6 (some .int) := hC
  obtain ⟨hx, hb, hml, hown, hts, hr, hlk⟩ := id hC
  have hl : lv_has ls 2 [(0, .ref (ad 0 0)), (1, .int a1)] := hl
  unfold fX6_share at hf
  refine lv_aload_n hx hb dX6_share_0 rfl (lv_at hl 0 rfl) ?_
  refine lv_iload_n hx hb dX6_share_1 rfl (lv_at hl 1 rfl) ?_
  obtain ⟨q1, hcq1, hf⟩ := bd_of hf
  refine kc_i (va_runS (As := [.int a1]) (rest := [.ref (ad 0 0)]) ⟨hx, hb, hml, hown, hts⟩ (mX6_isMember l D dA ad σ _ a1 q1 hcq1) (va_cwS 1 hts gX6_109 rfl rfl rfl (by decide +kernel) ⟨Nat.le_of_ble_eq_true rfl, Nat.le_of_ble_eq_true rfl⟩) (preS_of hR hK _) rfl rfl hl.1 rfl (lv_room (Nat.le_of_ble_eq_true rfl)) dX6_share_2 ⟨Nat.zero_le _, Nat.zero_le _⟩) hA hR hS (fun H locs hR hS => ?_)
  obtain ⟨q2, hcq2, hf⟩ := bd_of hf
  refine kc_i (va_runV (As := [.int q1]) (rest := []) ⟨hx, hb, hml, hown, hts⟩ (mX6_asks l D dA ad σ _ q1 q2.1 q2.2 hcq2) (cwV 1 hts gX6_78 rfl rfl rfl (by decide +kernel) ⟨Nat.le_of_ble_eq_true rfl, Nat.le_of_ble_eq_true rfl⟩) (preV_of hR hK (f := 0) (i := 0) rfl rfl rfl _) rfl rfl hl.1 rfl (lv_room (Nat.le_of_ble_eq_true rfl)) dX6_share_5 ⟨Nat.zero_le _, Nat.zero_le _⟩) hA hR hS (fun H locs hR hS => ?_)
  refine lv_if_eq (tgt := 21) hx hb dX6_share_8 (by decide) (fun c3 => ?_) (fun c3 => ?_)
  · have hf := if_of_pos hf c3
    refine lv_iconst (v := 0) hx hb dX6_share_21 (by decide) ?_
    cases hf
    exact ret_i hC hR hS dX6_share_22
  · have hf := if_of_neg hf c3
    refine lv_aload_n hx hb dX6_share_11 rfl (lv_at hl 0 rfl) ?_
    refine va_get (D := D) (ci := 7) (C := RX6) (T := TX6) (N := 22) hx hb hts iuX6 hown hK.1 (WW_one hR (f := 0) (i := 0) rfl) 0 rfl rfl 7 (by decide) (hts _ q_815) (fun _ h9 => h9) rfl dX6_share_12 ?_
    refine lv_iload_n hx hb dX6_share_15 rfl (lv_at hl 1 rfl) ?_
    obtain ⟨g4, hf⟩ := gd_of hf
    refine va_lald hx hb hK.1 (WW_one hR (f := 8) (i := 0) rfl) 0 1 rfl rfl g4 dX6_share_16 ?_
    refine lv_l2i hx hb dX6_share_17 rfl ?_
    refine lv_goto (tgt := 22) hx hb dX6_share_18 (by decide) ?_
    cases hf
    exact ret_i hC hR hS dX6_share_22
def fX6_unpaid (σ : St) : Option (Int32 × St) := some ((Int64.toInt32 (gL (pI σ 23 0 0 0) 20 0 0), pI σ 23 0 0 0))
set_option maxHeartbeats 4000000 in
set_option maxRecDepth 100000 in
theorem mX6_unpaid (l : Launch) (D : va_G) (dA : Nat → ClassId) (ad : Nat → Nat → Nat) (σ : St) (sz : Nat) (r : Int32) (σ' : St) (hf : fX6_unpaid σ = some (r, σ')) : Met l yX6_unpaid (WSy yX6_unpaid cX6_unpaid 1 (some .int)) ({ frames := 0, cells := 0, slots := 0, locals := 0 } : Room) (va_Pc [.ref (ad 0 0)] (fun U => U.heap.size = sz ∧ HM D dA (fun _ => True) ad σ U.heap ∧ KS D dA U)) (va_Qi (fun (x : Int32) (_ : Unit) => x = r) (fun _ t => HM D dA (WA ad (cvM σ) sz) ad σ' t.heap) (WA ad (cvM σ) sz)) 0 0 (WA ad (cvM σ) sz) := by
  refine met_of (by decide) (Nat.le_of_ble_eq_true rfl) ?_
  intro p e s m below meth c ls hC hB hl
  obtain ⟨rfl, hR, hK⟩ := hB
  have hA : ∀ q : Nat, s.heap.size ≤ q → WA ad (cvM σ) s.heap.size q := fun q h => Or.inr h
  have hR := WW_fit (B := WA ad (cvM σ) s.heap.size) hR (fun f i h => WA_in h)
  have hS : va_S (WA ad (cvM σ) s.heap.size) s.heap s.heap [] := va_S.rf
  generalize WA ad (cvM σ) s.heap.size = A0 at hA hR hS ⊢
  have hC : CTX p s m _ meth c cX6_unpaid 1 RX6 (some .int) := hC
  obtain ⟨hx, hb, hml, hown, hts, hr, hlk⟩ := id hC
  have hl : lv_has ls 1 [(0, .ref (ad 0 0))] := hl
  unfold fX6_unpaid at hf
  refine lv_aload_n hx hb dX6_unpaid_0 rfl (lv_at hl 0 rfl) ?_
  refine lv_iconst (v := 0) hx hb dX6_unpaid_1 (by decide) ?_
  refine ww_put (D := D) (ci := 7) (C := RX6) (T := TX6) (N := 22) (ty := .int) hx hb hts iuX6 tyX6 tyX6_ok nmX6 hown hK.1 hR hS (f := 0) (i := 0) rfl rfl rfl 21 (by decide) (hts _ q_829) (fun _ h9 => h9) rfl (by decide +kernel) rfl rfl (Nat.le_of_ble_eq_true rfl) dX6_unpaid_2 (fun H locs hR hS => ?_)
  have hR := HM_model_thrown 0 0 hR
  refine lv_aload_n hx hb dX6_unpaid_5 rfl (lv_at hl 0 rfl) ?_
  refine va_get (D := D) (ci := 7) (C := RX6) (T := TX6) (N := 22) hx hb hts iuX6 hown hK.1 (WW_one hR (f := 0) (i := 0) rfl) 0 rfl rfl 10 (by decide) (hts _ q_818) (fun _ h9 => h9) rfl dX6_unpaid_6 ?_
  refine lv_l2i hx hb dX6_unpaid_9 rfl ?_
  cases hf
  exact ret_i hC hR hS dX6_unpaid_10
