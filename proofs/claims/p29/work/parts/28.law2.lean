def fL_equities_L4 : Nat → St → Int32 → Int64 → Option ((Int64 × St) × Nat × Nat)
  | 0, _, _, _ => none
  | n + 1, σ, v3, v1 => if 5 ≤ v3 then some ((v1, σ), 0, 0) else yb (fX5_equity σ v3) (fun q2 => kst (v1 + (Int32.toInt64 q2.1)) (fun x9 => kst (v3 + 1) (fun x10 => fL_equities_L4 n q2.2 x10 x9)))
set_option maxHeartbeats 4000000 in
set_option maxRecDepth 100000 in
theorem wL_equities_L4 {p : Program} {l : Launch} {e : Env} {s : State} {m : MethodId} {args : Array Value} {below : List Frame} {meth : Method} {c : Code} {D : va_G} {dA : Nat → ClassId} {A0 : Nat → Prop} {x mi mc ms : Nat} {ad0 : Nat → Nat → Nat} {σ0 : St} {r : Int64} {σ' : St} (hC : CTX p s m args meth c cL_equities 4 RL (some .long)) (hK : KS D dA s) (hA : ∀ q, s.heap.size ≤ q → A0 q) (hX : EXT x mi A0 s s.heap) (hst : l.stackTraces = false) : ∀ (n : Nat) (H : Heap) (locs : List Loc) (ls : Array Slot) (ad : Nat → Nat → Nat) (c0 s0 mr sr : Nat) (σ : St) (v3 : Int32) (v1 : Int64), KA [13, 15] ad0 ad σ0 σ → LX ad σ x → mc = c0 + mr → ms = s0 + sr → HC D dA A0 ad σ H → va_S A0 s.heap H locs → lv_has ls 4 [(3, .int v3), (1, .long v1), (0, .ref (ad 0 0))] → fL_equities_L4 n σ v3 v1 = some ((r, σ'), mr, sr) → W p l e ({ frames := 9, cells := mc, slots := ms, locals := 153 } : Room) s m args below meth c H locs c0 s0 (MQ below (va_Ql (fun (z : Int64) (ad' : Nat → Nat → Nat) => z = r ∧ KA [13, 15] ad0 ad' σ0 σ' ∧ LX ad' σ' x) (fun ad' t => HC D dA A0 ad' σ' t.heap) A0) args s mc ms A0) (F0 m 4 ls []) := by
  obtain ⟨hx, hb, hml, hown, hts, hr, hlk⟩ := id hC
  intro n
  induction n with
  | zero =>
    intro H locs ls ad c0 s0 mr sr σ v3 v1 hKA hLX hm hn hR hS hl hf
    rw [fL_equities_L4.eq_1] at hf
    cases hf
  | succ n ih =>
    intro H locs ls ad c0 s0 mr sr σ v3 v1 hKA hLX hm hn hR hS hl hf
    rw [fL_equities_L4.eq_2] at hf
    refine lv_iload_n hx hb dL_equities_4 rfl (lv_at hl 0 rfl) ?_
    refine lv_iconst (v := 5) hx hb dL_equities_5 (by decide) ?_
    refine lv_icmp_ge (tgt := 24) hx hb dL_equities_6 (by decide) (fun c1 => ?_) (fun c1 => ?_)
    · have hf := if_of_pos hf c1
      refine lv_lload_n hx hb dL_equities_24 rfl (lv_at hl 1 rfl) ?_
      cases hf
      exact reta_l hC hKA hLX hR hS (nfin hm) (nfin hn) dL_equities_25
    · have hf := if_of_neg hf c1
      refine lv_lload_n hx hb dL_equities_9 rfl (lv_at hl 1 rfl) ?_
      refine lv_aload_n hx hb dL_equities_10 rfl (lv_at hl 2 rfl) ?_
      refine lv_iload_n hx hb dL_equities_11 rfl (lv_at hl 0 rfl) ?_
      obtain ⟨q2, m3, n4, m5, n6, hcq2, hf, hem, hen⟩ := yb_of hf
      refine kcx_iR (q := q2) (vx_runV (As := [.int v3]) (rest := [.long v1]) ⟨hx, hb, hml, hown, hts⟩ (mX5_equity l hst D dA ad σ _ x mi v3 (.inr q2) m3 n4 hcq2) (cwV 1 hts gL_80 rfl rfl rfl (by decide +kernel) ⟨Nat.le_of_ble_eq_true rfl, Nat.le_of_ble_eq_true rfl⟩) (preVA_of hA hR hS hK hX hLX _) rfl rfl hl.1 rfl (lv_room (Nat.le_of_ble_eq_true rfl)) dL_equities_12 ⟨nle hm hem, nle hn hen⟩) hA hR hS (fun ad7 H locs hka hLX hR hS => ?_)
      have e8 := (hka 0 0 rfl (by decide)).1
      have hl : lv_has ls 4 [(3, .int v3), (1, .long v1), (0, .ref (ad7 0 0))] := by rw [e8]; exact hl
      have hKA := KA_tr hKA hka (by decide)
      have hm := nadd hm hem
      have hn := nadd hn hen
      refine lv_i2l hx hb dL_equities_15 rfl ?_
      refine lv_ladd hx hb dL_equities_16 ?_
      refine lv_topl (fun x9 hx9 => ?_)
      have hf := kst_eq hx9 hf
      refine lv_lstore_n (lv' := [(1, .long x9), (3, .int v3), (0, .ref (ad7 0 0))]) hx hb dL_equities_17 rfl hl (by decide) rfl (fun ls hl => ?_)
      obtain ⟨x10, hx10⟩ : ∃ y : Int32, y = v3 + 1 := ⟨_, rfl⟩
      have hf := kst_eq hx10 hf
      refine lv_iinc (v := x10) (lv' := [(3, .int x10), (1, .long x9), (0, .ref (ad7 0 0))]) hx hb dL_equities_18 hl (k := 1) rfl (by rw [hx10]; rfl) (by decide) rfl (fun ls hl => ?_)
      refine lv_goto (tgt := 4) hx hb dL_equities_21 (by decide) ?_
      exact ih _ _ _ ad7 _ _ _ _ q2.2 x10 x9 hKA hLX hm hn hR hS (lv_sub hl [0, 1, 2] rfl) hf
def fL_equities (σ : St) : Option ((Int64 × St) × Nat × Nat) := fL_equities_L4 1000 σ 0 0
set_option maxHeartbeats 4000000 in
set_option maxRecDepth 100000 in
theorem mL_equities (l : Launch) (hst : l.stackTraces = false) (D : va_G) (dA : Nat → ClassId) (ad : Nat → Nat → Nat) (σ : St) (sz x mi : Nat) (r : Int64) (σ' : St) (mc ms : Nat) (hf : fL_equities σ = some ((r, σ'), mc, ms)) : Met l yL_equities (WSy yL_equities cL_equities 4 (some .long)) ({ frames := 9, cells := mc, slots := ms, locals := 153 } : Room) (va_Pc [.ref (ad 0 0)] (PreA D dA ad σ x mi sz)) (va_Ql (fun (z : Int64) (ad' : Nat → Nat → Nat) => z = r ∧ KA [13, 15] ad ad' σ σ' ∧ LX ad' σ' x) (fun ad' t => HC D dA (WA ad (cvC σ) sz) ad' σ' t.heap) (WA ad (cvC σ) sz)) mc ms (WA ad (cvC σ) sz) := by
  refine met_of (by decide) (Nat.le_of_ble_eq_true rfl) ?_
  intro p e s m below meth c ls hC hB hl
  obtain ⟨rfl, hR, hK, hX, hLX⟩ := hB
  have hA : ∀ q : Nat, s.heap.size ≤ q → WA ad (cvC σ) s.heap.size q := fun q h => Or.inr h
  have hR := WW_fit (B := WA ad (cvC σ) s.heap.size) hR (fun f i h => WA_in h)
  have hS : va_S (WA ad (cvC σ) s.heap.size) s.heap s.heap [] := va_S.rf
  generalize WA ad (cvC σ) s.heap.size = A0 at hA hR hS hX ⊢
  have hC : CTX p s m _ meth c cL_equities 4 RL (some .long) := hC
  obtain ⟨hx, hb, hml, hown, hts, hr, hlk⟩ := id hC
  have hl : lv_has ls 4 [(0, .ref (ad 0 0))] := hl
  have hKA : KA [13, 15] ad ad σ σ := KA_rf _ _ _
  have hm : mc = 0 + mc := (Nat.zero_add mc).symm
  have hn : ms = 0 + ms := (Nat.zero_add ms).symm
  unfold fL_equities at hf
  refine lv_lconst (v := 0) hx hb dL_equities_0 (by decide) ?_
  refine lv_lstore_n (lv' := [(1, .long 0), (0, .ref (ad 0 0))]) hx hb dL_equities_1 rfl hl (by decide) rfl (fun ls hl => ?_)
  refine lv_iconst (v := 0) hx hb dL_equities_2 (by decide) ?_
  refine lv_istore_n (lv' := [(3, .int 0), (1, .long 0), (0, .ref (ad 0 0))]) hx hb dL_equities_3 rfl hl (by decide) rfl (fun ls hl => ?_)
  exact wL_equities_L4 hC hK hA hX hst 1000 _ _ _ ad _ _ _ _ σ 0 0 hKA hLX hm hn hR hS (lv_sub hl [0, 1, 2] rfl) hf
def fL_shares_L4 : Nat → St → Int32 → Int64 → Option ((Int64 × St) × Nat × Nat)
  | 0, _, _, _ => none
  | n + 1, σ, v3, v1 => if 5 ≤ v3 then some ((v1, σ), 0, 0) else yb (fX5_share σ v3) (fun q2 => kst (v1 + (Int32.toInt64 q2.1)) (fun x9 => kst (v3 + 1) (fun x10 => fL_shares_L4 n q2.2 x10 x9)))
set_option maxHeartbeats 4000000 in
set_option maxRecDepth 100000 in
theorem wL_shares_L4 {p : Program} {l : Launch} {e : Env} {s : State} {m : MethodId} {args : Array Value} {below : List Frame} {meth : Method} {c : Code} {D : va_G} {dA : Nat → ClassId} {A0 : Nat → Prop} {x mi mc ms : Nat} {ad0 : Nat → Nat → Nat} {σ0 : St} {r : Int64} {σ' : St} (hC : CTX p s m args meth c cL_shares 4 RL (some .long)) (hK : KS D dA s) (hA : ∀ q, s.heap.size ≤ q → A0 q) (hX : EXT x mi A0 s s.heap) (hst : l.stackTraces = false) : ∀ (n : Nat) (H : Heap) (locs : List Loc) (ls : Array Slot) (ad : Nat → Nat → Nat) (c0 s0 mr sr : Nat) (σ : St) (v3 : Int32) (v1 : Int64), KA [13, 15] ad0 ad σ0 σ → LX ad σ x → mc = c0 + mr → ms = s0 + sr → HC D dA A0 ad σ H → va_S A0 s.heap H locs → lv_has ls 4 [(3, .int v3), (1, .long v1), (0, .ref (ad 0 0))] → fL_shares_L4 n σ v3 v1 = some ((r, σ'), mr, sr) → W p l e ({ frames := 9, cells := mc, slots := ms, locals := 153 } : Room) s m args below meth c H locs c0 s0 (MQ below (va_Ql (fun (z : Int64) (ad' : Nat → Nat → Nat) => z = r ∧ KA [13, 15] ad0 ad' σ0 σ' ∧ LX ad' σ' x) (fun ad' t => HC D dA A0 ad' σ' t.heap) A0) args s mc ms A0) (F0 m 4 ls []) := by
  obtain ⟨hx, hb, hml, hown, hts, hr, hlk⟩ := id hC
  intro n
  induction n with
  | zero =>
    intro H locs ls ad c0 s0 mr sr σ v3 v1 hKA hLX hm hn hR hS hl hf
    rw [fL_shares_L4.eq_1] at hf
    cases hf
  | succ n ih =>
    intro H locs ls ad c0 s0 mr sr σ v3 v1 hKA hLX hm hn hR hS hl hf
    rw [fL_shares_L4.eq_2] at hf
    refine lv_iload_n hx hb dL_shares_4 rfl (lv_at hl 0 rfl) ?_
    refine lv_iconst (v := 5) hx hb dL_shares_5 (by decide) ?_
    refine lv_icmp_ge (tgt := 24) hx hb dL_shares_6 (by decide) (fun c1 => ?_) (fun c1 => ?_)
    · have hf := if_of_pos hf c1
      refine lv_lload_n hx hb dL_shares_24 rfl (lv_at hl 1 rfl) ?_
      cases hf
      exact reta_l hC hKA hLX hR hS (nfin hm) (nfin hn) dL_shares_25
    · have hf := if_of_neg hf c1
      refine lv_lload_n hx hb dL_shares_9 rfl (lv_at hl 1 rfl) ?_
      refine lv_aload_n hx hb dL_shares_10 rfl (lv_at hl 2 rfl) ?_
      refine lv_iload_n hx hb dL_shares_11 rfl (lv_at hl 0 rfl) ?_
      obtain ⟨q2, m3, n4, m5, n6, hcq2, hf, hem, hen⟩ := yb_of hf
      refine kcx_iR (q := q2) (vx_runV (As := [.int v3]) (rest := [.long v1]) ⟨hx, hb, hml, hown, hts⟩ (mX5_share l hst D dA ad σ _ x mi v3 (.inr q2) m3 n4 hcq2) (cwV 1 hts gL_98 rfl rfl rfl (by decide +kernel) ⟨Nat.le_of_ble_eq_true rfl, Nat.le_of_ble_eq_true rfl⟩) (preVA_of hA hR hS hK hX hLX _) rfl rfl hl.1 rfl (lv_room (Nat.le_of_ble_eq_true rfl)) dL_shares_12 ⟨nle hm hem, nle hn hen⟩) hA hR hS (fun ad7 H locs hka hLX hR hS => ?_)
      have e8 := (hka 0 0 rfl (by decide)).1
      have hl : lv_has ls 4 [(3, .int v3), (1, .long v1), (0, .ref (ad7 0 0))] := by rw [e8]; exact hl
      have hKA := KA_tr hKA hka (by decide)
      have hm := nadd hm hem
      have hn := nadd hn hen
      refine lv_i2l hx hb dL_shares_15 rfl ?_
      refine lv_ladd hx hb dL_shares_16 ?_
      refine lv_topl (fun x9 hx9 => ?_)
      have hf := kst_eq hx9 hf
      refine lv_lstore_n (lv' := [(1, .long x9), (3, .int v3), (0, .ref (ad7 0 0))]) hx hb dL_shares_17 rfl hl (by decide) rfl (fun ls hl => ?_)
      obtain ⟨x10, hx10⟩ : ∃ y : Int32, y = v3 + 1 := ⟨_, rfl⟩
      have hf := kst_eq hx10 hf
      refine lv_iinc (v := x10) (lv' := [(3, .int x10), (1, .long x9), (0, .ref (ad7 0 0))]) hx hb dL_shares_18 hl (k := 1) rfl (by rw [hx10]; rfl) (by decide) rfl (fun ls hl => ?_)
      refine lv_goto (tgt := 4) hx hb dL_shares_21 (by decide) ?_
      exact ih _ _ _ ad7 _ _ _ _ q2.2 x10 x9 hKA hLX hm hn hR hS (lv_sub hl [0, 1, 2] rfl) hf
def fL_shares (σ : St) : Option ((Int64 × St) × Nat × Nat) := fL_shares_L4 1000 σ 0 0
set_option maxHeartbeats 4000000 in
set_option maxRecDepth 100000 in
theorem mL_shares (l : Launch) (hst : l.stackTraces = false) (D : va_G) (dA : Nat → ClassId) (ad : Nat → Nat → Nat) (σ : St) (sz x mi : Nat) (r : Int64) (σ' : St) (mc ms : Nat) (hf : fL_shares σ = some ((r, σ'), mc, ms)) : Met l yL_shares (WSy yL_shares cL_shares 4 (some .long)) ({ frames := 9, cells := mc, slots := ms, locals := 153 } : Room) (va_Pc [.ref (ad 0 0)] (PreA D dA ad σ x mi sz)) (va_Ql (fun (z : Int64) (ad' : Nat → Nat → Nat) => z = r ∧ KA [13, 15] ad ad' σ σ' ∧ LX ad' σ' x) (fun ad' t => HC D dA (WA ad (cvC σ) sz) ad' σ' t.heap) (WA ad (cvC σ) sz)) mc ms (WA ad (cvC σ) sz) := by
  refine met_of (by decide) (Nat.le_of_ble_eq_true rfl) ?_
  intro p e s m below meth c ls hC hB hl
  obtain ⟨rfl, hR, hK, hX, hLX⟩ := hB
  have hA : ∀ q : Nat, s.heap.size ≤ q → WA ad (cvC σ) s.heap.size q := fun q h => Or.inr h
  have hR := WW_fit (B := WA ad (cvC σ) s.heap.size) hR (fun f i h => WA_in h)
  have hS : va_S (WA ad (cvC σ) s.heap.size) s.heap s.heap [] := va_S.rf
  generalize WA ad (cvC σ) s.heap.size = A0 at hA hR hS hX ⊢
  have hC : CTX p s m _ meth c cL_shares 4 RL (some .long) := hC
  obtain ⟨hx, hb, hml, hown, hts, hr, hlk⟩ := id hC
  have hl : lv_has ls 4 [(0, .ref (ad 0 0))] := hl
  have hKA : KA [13, 15] ad ad σ σ := KA_rf _ _ _
  have hm : mc = 0 + mc := (Nat.zero_add mc).symm
  have hn : ms = 0 + ms := (Nat.zero_add ms).symm
  unfold fL_shares at hf
  refine lv_lconst (v := 0) hx hb dL_shares_0 (by decide) ?_
  refine lv_lstore_n (lv' := [(1, .long 0), (0, .ref (ad 0 0))]) hx hb dL_shares_1 rfl hl (by decide) rfl (fun ls hl => ?_)
  refine lv_iconst (v := 0) hx hb dL_shares_2 (by decide) ?_
  refine lv_istore_n (lv' := [(3, .int 0), (1, .long 0), (0, .ref (ad 0 0))]) hx hb dL_shares_3 rfl hl (by decide) rfl (fun ls hl => ?_)
  exact wL_shares_L4 hC hK hA hX hst 1000 _ _ _ ad _ _ _ _ σ 0 0 hKA hLX hm hn hR hS (lv_sub hl [0, 1, 2] rfl) hf
def fL_standing_L4 : Nat → St → Int32 → Int32 → Option ((Int32 × St) × Nat × Nat)
  | 0, _, _, _ => none
  | n + 1, σ, v2, v1 => if 5 ≤ v2 then some ((v1, σ), 0, 0) else yb (fX5_hasFailed σ v2) (fun q2 => if q2.1 = 0 then kst (v1 + 1) (fun x10 => kst (v2 + 1) (fun x11 => fL_standing_L4 n q2.2 x11 x10)) else kst (v1 + 0) (fun x12 => kst (v2 + 1) (fun x13 => fL_standing_L4 n q2.2 x13 x12)))
set_option maxHeartbeats 4000000 in
set_option maxRecDepth 100000 in
theorem wL_standing_L4 {p : Program} {l : Launch} {e : Env} {s : State} {m : MethodId} {args : Array Value} {below : List Frame} {meth : Method} {c : Code} {D : va_G} {dA : Nat → ClassId} {A0 : Nat → Prop} {x mi mc ms : Nat} {ad0 : Nat → Nat → Nat} {σ0 : St} {r : Int32} {σ' : St} (hC : CTX p s m args meth c cL_standing 3 RL (some .int)) (hK : KS D dA s) (hA : ∀ q, s.heap.size ≤ q → A0 q) (hX : EXT x mi A0 s s.heap) (hst : l.stackTraces = false) : ∀ (n : Nat) (H : Heap) (locs : List Loc) (ls : Array Slot) (ad : Nat → Nat → Nat) (c0 s0 mr sr : Nat) (σ : St) (v2 : Int32) (v1 : Int32), KA [13, 15] ad0 ad σ0 σ → LX ad σ x → mc = c0 + mr → ms = s0 + sr → HC D dA A0 ad σ H → va_S A0 s.heap H locs → lv_has ls 3 [(2, .int v2), (1, .int v1), (0, .ref (ad 0 0))] → fL_standing_L4 n σ v2 v1 = some ((r, σ'), mr, sr) → W p l e ({ frames := 9, cells := mc, slots := ms, locals := 153 } : Room) s m args below meth c H locs c0 s0 (MQ below (va_Qi (fun (z : Int32) (ad' : Nat → Nat → Nat) => z = r ∧ KA [13, 15] ad0 ad' σ0 σ' ∧ LX ad' σ' x) (fun ad' t => HC D dA A0 ad' σ' t.heap) A0) args s mc ms A0) (F0 m 4 ls []) := by
  obtain ⟨hx, hb, hml, hown, hts, hr, hlk⟩ := id hC
  intro n
  induction n with
  | zero =>
    intro H locs ls ad c0 s0 mr sr σ v2 v1 hKA hLX hm hn hR hS hl hf
    rw [fL_standing_L4.eq_1] at hf
    cases hf
  | succ n ih =>
    intro H locs ls ad c0 s0 mr sr σ v2 v1 hKA hLX hm hn hR hS hl hf
    rw [fL_standing_L4.eq_2] at hf
    refine lv_iload_n hx hb dL_standing_4 rfl (lv_at hl 0 rfl) ?_
    refine lv_iconst (v := 5) hx hb dL_standing_5 (by decide) ?_
    refine lv_icmp_ge (tgt := 31) hx hb dL_standing_6 (by decide) (fun c1 => ?_) (fun c1 => ?_)
    · have hf := if_of_pos hf c1
      refine lv_iload_n hx hb dL_standing_31 rfl (lv_at hl 1 rfl) ?_
      cases hf
      exact reta_i hC hKA hLX hR hS (nfin hm) (nfin hn) dL_standing_32
    · have hf := if_of_neg hf c1
      refine lv_iload_n hx hb dL_standing_9 rfl (lv_at hl 1 rfl) ?_
      refine lv_aload_n hx hb dL_standing_10 rfl (lv_at hl 2 rfl) ?_
      refine lv_iload_n hx hb dL_standing_11 rfl (lv_at hl 0 rfl) ?_
      obtain ⟨q2, m3, n4, m5, n6, hcq2, hf, hem, hen⟩ := yb_of hf
      refine kcx_iR (q := q2) (vx_runV (As := [.int v2]) (rest := [.int v1]) ⟨hx, hb, hml, hown, hts⟩ (mX5_hasFailed l hst D dA ad σ _ x mi v2 (.inr q2) m3 n4 hcq2) (cwV 1 hts gL_70 rfl rfl rfl (by decide +kernel) ⟨Nat.le_of_ble_eq_true rfl, Nat.le_of_ble_eq_true rfl⟩) (preVA_of hA hR hS hK hX hLX _) rfl rfl hl.1 rfl (lv_room (Nat.le_of_ble_eq_true rfl)) dL_standing_12 ⟨nle hm hem, nle hn hen⟩) hA hR hS (fun ad7 H locs hka hLX hR hS => ?_)
      have e8 := (hka 0 0 rfl (by decide)).1
      have hl : lv_has ls 3 [(2, .int v2), (1, .int v1), (0, .ref (ad7 0 0))] := by rw [e8]; exact hl
      have hKA := KA_tr hKA hka (by decide)
      have hm := nadd hm hem
      have hn := nadd hn hen
      refine lv_if_eq (tgt := 22) hx hb dL_standing_15 (by decide) (fun c9 => ?_) (fun c9 => ?_)
      · have hf := if_of_pos hf c9
        refine lv_iconst (v := 1) hx hb dL_standing_22 (by decide) ?_
        refine lv_iadd hx hb dL_standing_23 ?_
        refine lv_topi (fun x10 hx10 => ?_)
        have hf := kst_eq hx10 hf
        refine lv_istore_n (lv' := [(1, .int x10), (2, .int v2), (0, .ref (ad7 0 0))]) hx hb dL_standing_24 rfl hl (by decide) rfl (fun ls hl => ?_)
        obtain ⟨x11, hx11⟩ : ∃ y : Int32, y = v2 + 1 := ⟨_, rfl⟩
        have hf := kst_eq hx11 hf
        refine lv_iinc (v := x11) (lv' := [(2, .int x11), (1, .int x10), (0, .ref (ad7 0 0))]) hx hb dL_standing_25 hl (k := 1) rfl (by rw [hx11]; rfl) (by decide) rfl (fun ls hl => ?_)
        refine lv_goto (tgt := 4) hx hb dL_standing_28 (by decide) ?_
        exact ih _ _ _ ad7 _ _ _ _ q2.2 x11 x10 hKA hLX hm hn hR hS (lv_sub hl [0, 1, 2] rfl) hf
      · have hf := if_of_neg hf c9
        refine lv_iconst (v := 0) hx hb dL_standing_18 (by decide) ?_
        refine lv_goto (tgt := 23) hx hb dL_standing_19 (by decide) ?_
        refine lv_iadd hx hb dL_standing_23 ?_
        refine lv_topi (fun x12 hx12 => ?_)
        have hf := kst_eq hx12 hf
        refine lv_istore_n (lv' := [(1, .int x12), (2, .int v2), (0, .ref (ad7 0 0))]) hx hb dL_standing_24 rfl hl (by decide) rfl (fun ls hl => ?_)
        obtain ⟨x13, hx13⟩ : ∃ y : Int32, y = v2 + 1 := ⟨_, rfl⟩
        have hf := kst_eq hx13 hf
        refine lv_iinc (v := x13) (lv' := [(2, .int x13), (1, .int x12), (0, .ref (ad7 0 0))]) hx hb dL_standing_25 hl (k := 1) rfl (by rw [hx13]; rfl) (by decide) rfl (fun ls hl => ?_)
        refine lv_goto (tgt := 4) hx hb dL_standing_28 (by decide) ?_
        exact ih _ _ _ ad7 _ _ _ _ q2.2 x13 x12 hKA hLX hm hn hR hS (lv_sub hl [0, 1, 2] rfl) hf
def fL_standing (σ : St) : Option ((Int32 × St) × Nat × Nat) := fL_standing_L4 1000 σ 0 0
set_option maxHeartbeats 4000000 in
set_option maxRecDepth 100000 in
theorem mL_standing (l : Launch) (hst : l.stackTraces = false) (D : va_G) (dA : Nat → ClassId) (ad : Nat → Nat → Nat) (σ : St) (sz x mi : Nat) (r : Int32) (σ' : St) (mc ms : Nat) (hf : fL_standing σ = some ((r, σ'), mc, ms)) : Met l yL_standing (WSy yL_standing cL_standing 3 (some .int)) ({ frames := 9, cells := mc, slots := ms, locals := 153 } : Room) (va_Pc [.ref (ad 0 0)] (PreA D dA ad σ x mi sz)) (va_Qi (fun (z : Int32) (ad' : Nat → Nat → Nat) => z = r ∧ KA [13, 15] ad ad' σ σ' ∧ LX ad' σ' x) (fun ad' t => HC D dA (WA ad (cvC σ) sz) ad' σ' t.heap) (WA ad (cvC σ) sz)) mc ms (WA ad (cvC σ) sz) := by
  refine met_of (by decide) (Nat.le_of_ble_eq_true rfl) ?_
  intro p e s m below meth c ls hC hB hl
  obtain ⟨rfl, hR, hK, hX, hLX⟩ := hB
  have hA : ∀ q : Nat, s.heap.size ≤ q → WA ad (cvC σ) s.heap.size q := fun q h => Or.inr h
  have hR := WW_fit (B := WA ad (cvC σ) s.heap.size) hR (fun f i h => WA_in h)
  have hS : va_S (WA ad (cvC σ) s.heap.size) s.heap s.heap [] := va_S.rf
  generalize WA ad (cvC σ) s.heap.size = A0 at hA hR hS hX ⊢
  have hC : CTX p s m _ meth c cL_standing 3 RL (some .int) := hC
  obtain ⟨hx, hb, hml, hown, hts, hr, hlk⟩ := id hC
  have hl : lv_has ls 3 [(0, .ref (ad 0 0))] := hl
  have hKA : KA [13, 15] ad ad σ σ := KA_rf _ _ _
  have hm : mc = 0 + mc := (Nat.zero_add mc).symm
  have hn : ms = 0 + ms := (Nat.zero_add ms).symm
  unfold fL_standing at hf
  refine lv_iconst (v := 0) hx hb dL_standing_0 (by decide) ?_
  refine lv_istore_n (lv' := [(1, .int 0), (0, .ref (ad 0 0))]) hx hb dL_standing_1 rfl hl (by decide) rfl (fun ls hl => ?_)
  refine lv_iconst (v := 0) hx hb dL_standing_2 (by decide) ?_
  refine lv_istore_n (lv' := [(2, .int 0), (1, .int 0), (0, .ref (ad 0 0))]) hx hb dL_standing_3 rfl hl (by decide) rfl (fun ls hl => ?_)
  exact wL_standing_L4 hC hK hA hX hst 1000 _ _ _ ad _ _ _ _ σ 0 0 hKA hLX hm hn hR hS (lv_sub hl [0, 1, 2] rfl) hf
def fL_all_L167 {β : Type} (k : St → Int32 → Int64 → Int32 → Option (β × Nat × Nat)) : Nat → St → Int32 → Int64 → Int32 → Option (β × Nat × Nat)
  | 0, _, _, _, _ => none
  | n + 1, σ, v4, v2, v1 => if v1 ≤ v4 then k σ v4 v2 v1 else yb (fX5_left σ v4) (fun q6 => kst ((v2 * 131) + (Int32.toInt64 q6.1)) (fun x13 => kst (v4 + 1) (fun x14 => fL_all_L167 k n q6.2 x14 x13 v1)))
set_option maxHeartbeats 4000000 in
set_option maxRecDepth 100000 in
theorem wL_all_L167 {p : Program} {l : Launch} {e : Env} {s : State} {m : MethodId} {args : Array Value} {below : List Frame} {meth : Method} {c : Code} {D : va_G} {dA : Nat → ClassId} {A0 : Nat → Prop} {x mi mc ms : Nat} {ad0 : Nat → Nat → Nat} {σ0 : St} {β : Type} {o : β} {Q : State → Prop} {k : St → Int32 → Int64 → Int32 → Option (β × Nat × Nat)} (hC : CTX p s m args meth c cL_all 5 RL (some .long)) (hK : KS D dA s) (hA : ∀ q, s.heap.size ≤ q → A0 q) (hX : EXT x mi A0 s s.heap) (hst : l.stackTraces = false) (hk : ∀ (H : Heap) (locs : List Loc) (ls : Array Slot) (ad : Nat → Nat → Nat) (c0 s0 mr sr : Nat) (σ : St) (v4 : Int32) (v2 : Int64) (v1 : Int32), KA [13, 15] ad0 ad σ0 σ → LX ad σ x → mc = c0 + mr → ms = s0 + sr → HC D dA A0 ad σ H → va_S A0 s.heap H locs → lv_has ls 5 [(4, .int v4), (2, .long v2), (0, .ref (ad 0 0)), (1, .int v1)] → k σ v4 v2 v1 = some (o, mr, sr) → W p l e ({ frames := 13, cells := mc, slots := ms, locals := 325 } : Room) s m args below meth c H locs c0 s0 Q (F0 m 193 ls [])) : ∀ (n : Nat) (H : Heap) (locs : List Loc) (ls : Array Slot) (ad : Nat → Nat → Nat) (c0 s0 mr sr : Nat) (σ : St) (v4 : Int32) (v2 : Int64) (v1 : Int32), KA [13, 15] ad0 ad σ0 σ → LX ad σ x → mc = c0 + mr → ms = s0 + sr → HC D dA A0 ad σ H → va_S A0 s.heap H locs → lv_has ls 5 [(4, .int v4), (2, .long v2), (0, .ref (ad 0 0)), (1, .int v1)] → fL_all_L167 k n σ v4 v2 v1 = some (o, mr, sr) → W p l e ({ frames := 13, cells := mc, slots := ms, locals := 325 } : Room) s m args below meth c H locs c0 s0 Q (F0 m 167 ls []) := by
  obtain ⟨hx, hb, hml, hown, hts, hr, hlk⟩ := id hC
  intro n
  induction n with
  | zero =>
    intro H locs ls ad c0 s0 mr sr σ v4 v2 v1 hKA hLX hm hn hR hS hl hf
    rw [fL_all_L167.eq_1] at hf
    cases hf
  | succ n ih =>
    intro H locs ls ad c0 s0 mr sr σ v4 v2 v1 hKA hLX hm hn hR hS hl hf
    rw [fL_all_L167.eq_2] at hf
    refine lv_iload hx hb dL_all_167 (lv_at hl 0 rfl) ?_
    refine lv_iload_n hx hb dL_all_169 rfl (lv_at hl 3 rfl) ?_
    refine lv_icmp_ge (tgt := 193) hx hb dL_all_170 (by decide) (fun c5 => ?_) (fun c5 => ?_)
    · have hf := if_of_pos hf c5
      exact hk _ _ _ ad _ _ _ _ σ v4 v2 v1 hKA hLX hm hn hR hS (lv_sub hl [0, 1, 2, 3] rfl) hf
    · have hf := if_of_neg hf c5
      refine lv_lload_n hx hb dL_all_173 rfl (lv_at hl 1 rfl) ?_
      refine lv_ldc2 (v := 131) hx hb hown (hts _ q_654) dL_all_174 ?_
      refine lv_lmul hx hb dL_all_177 ?_
      refine lv_aload_n hx hb dL_all_178 rfl (lv_at hl 2 rfl) ?_
      refine lv_iload hx hb dL_all_179 (lv_at hl 0 rfl) ?_
      obtain ⟨q6, m7, n8, m9, n10, hcq6, hf, hem, hen⟩ := yb_of hf
      refine kcx_iR (q := q6) (vx_runV (As := [.int v4]) (rest := [.long (v2 * 131)]) ⟨hx, hb, hml, hown, hts⟩ (mX5_left l hst D dA ad σ _ x mi v4 (.inr q6) m7 n8 hcq6) (cwV 1 hts gL_61 rfl rfl rfl (by decide +kernel) ⟨Nat.le_of_ble_eq_true rfl, Nat.le_of_ble_eq_true rfl⟩) (preVA_of hA hR hS hK hX hLX _) rfl rfl hl.1 rfl (lv_room (Nat.le_of_ble_eq_true rfl)) dL_all_181 ⟨nle hm hem, nle hn hen⟩) hA hR hS (fun ad11 H locs hka hLX hR hS => ?_)
      have e12 := (hka 0 0 rfl (by decide)).1
      have hl : lv_has ls 5 [(4, .int v4), (2, .long v2), (0, .ref (ad11 0 0)), (1, .int v1)] := by rw [e12]; exact hl
      have hKA := KA_tr hKA hka (by decide)
      have hm := nadd hm hem
      have hn := nadd hn hen
      refine lv_i2l hx hb dL_all_184 rfl ?_
      refine lv_ladd hx hb dL_all_185 ?_
      refine lv_topl (fun x13 hx13 => ?_)
      have hf := kst_eq hx13 hf
      refine lv_lstore_n (lv' := [(2, .long x13), (4, .int v4), (0, .ref (ad11 0 0)), (1, .int v1)]) hx hb dL_all_186 rfl hl (by decide) rfl (fun ls hl => ?_)
      obtain ⟨x14, hx14⟩ : ∃ y : Int32, y = v4 + 1 := ⟨_, rfl⟩
      have hf := kst_eq hx14 hf
      refine lv_iinc (v := x14) (lv' := [(4, .int x14), (2, .long x13), (0, .ref (ad11 0 0)), (1, .int v1)]) hx hb dL_all_187 hl (k := 1) rfl (by rw [hx14]; rfl) (by decide) rfl (fun ls hl => ?_)
      refine lv_goto (tgt := 167) hx hb dL_all_190 (by decide) ?_
      exact ih _ _ _ ad11 _ _ _ _ q6.2 x14 x13 v1 hKA hLX hm hn hR hS (lv_sub hl [0, 1, 2, 3] rfl) hf
def fL_all_L196 {β : Type} (k : St → Int32 → Int64 → Int32 → Option (β × Nat × Nat)) : Nat → St → Int32 → Int64 → Int32 → Option (β × Nat × Nat)
  | 0, _, _, _, _ => none
  | n + 1, σ, v4, v2, v1 => if 3 ≤ v4 then k σ v4 v2 v1 else bt2 (fL_call σ 10 v4 0 0) (fun q21 => bt2 (fL_call q21.2 10 v4 1 0) (fun q29 => kst ((((v2 * 103) + (Int32.toInt64 (q21.1 - q21.1 / 101 * 101))) * 103) + (Int32.toInt64 (q29.1 - q29.1 / 101 * 101))) (fun x37 => kst (v4 + 1) (fun x38 => fL_all_L196 k n q29.2 x38 x37 v1))))
set_option maxHeartbeats 4000000 in
set_option maxRecDepth 100000 in
theorem wL_all_L196 {p : Program} {l : Launch} {e : Env} {s : State} {m : MethodId} {args : Array Value} {below : List Frame} {meth : Method} {c : Code} {D : va_G} {dA : Nat → ClassId} {A0 : Nat → Prop} {x mi mc ms : Nat} {ad0 : Nat → Nat → Nat} {σ0 : St} {β : Type} {o : β} {Q : State → Prop} {k : St → Int32 → Int64 → Int32 → Option (β × Nat × Nat)} (hC : CTX p s m args meth c cL_all 5 RL (some .long)) (hK : KS D dA s) (hA : ∀ q, s.heap.size ≤ q → A0 q) (hX : EXT x mi A0 s s.heap) (hst : l.stackTraces = false) (hk : ∀ (H : Heap) (locs : List Loc) (ls : Array Slot) (ad : Nat → Nat → Nat) (c0 s0 mr sr : Nat) (σ : St) (v4 : Int32) (v2 : Int64) (v1 : Int32), KA [13, 15] ad0 ad σ0 σ → LX ad σ x → mc = c0 + mr → ms = s0 + sr → HC D dA A0 ad σ H → va_S A0 s.heap H locs → lv_has ls 5 [(4, .int v4), (2, .long v2), (0, .ref (ad 0 0)), (1, .int v1)] → k σ v4 v2 v1 = some (o, mr, sr) → W p l e ({ frames := 13, cells := mc, slots := ms, locals := 325 } : Room) s m args below meth c H locs c0 s0 Q (F0 m 248 ls [])) : ∀ (n : Nat) (H : Heap) (locs : List Loc) (ls : Array Slot) (ad : Nat → Nat → Nat) (c0 s0 mr sr : Nat) (σ : St) (v4 : Int32) (v2 : Int64) (v1 : Int32), KA [13, 15] ad0 ad σ0 σ → LX ad σ x → mc = c0 + mr → ms = s0 + sr → HC D dA A0 ad σ H → va_S A0 s.heap H locs → lv_has ls 5 [(4, .int v4), (2, .long v2), (0, .ref (ad 0 0)), (1, .int v1)] → fL_all_L196 k n σ v4 v2 v1 = some (o, mr, sr) → W p l e ({ frames := 13, cells := mc, slots := ms, locals := 325 } : Room) s m args below meth c H locs c0 s0 Q (F0 m 196 ls []) := by
  obtain ⟨hx, hb, hml, hown, hts, hr, hlk⟩ := id hC
  intro n
  induction n with
  | zero =>
    intro H locs ls ad c0 s0 mr sr σ v4 v2 v1 hKA hLX hm hn hR hS hl hf
    rw [fL_all_L196.eq_1] at hf
    cases hf
  | succ n ih =>
    intro H locs ls ad c0 s0 mr sr σ v4 v2 v1 hKA hLX hm hn hR hS hl hf
    rw [fL_all_L196.eq_2] at hf
    refine lv_iload hx hb dL_all_196 (lv_at hl 0 rfl) ?_
    refine lv_iconst (v := 3) hx hb dL_all_198 (by decide) ?_
    refine lv_icmp_ge (tgt := 248) hx hb dL_all_199 (by decide) (fun c20 => ?_) (fun c20 => ?_)
    · have hf := if_of_pos hf c20
      exact hk _ _ _ ad _ _ _ _ σ v4 v2 v1 hKA hLX hm hn hR hS (lv_sub hl [0, 1, 2, 3] rfl) hf
    · have hf := if_of_neg hf c20
      refine lv_lload_n hx hb dL_all_202 rfl (lv_at hl 1 rfl) ?_
      refine lv_ldc2 (v := 103) hx hb hown (hts _ q_655) dL_all_203 ?_
      refine lv_lmul hx hb dL_all_206 ?_
      refine lv_aload_n hx hb dL_all_207 rfl (lv_at hl 2 rfl) ?_
      refine lv_bipush (v := 10) hx hb dL_all_208 (by decide) ?_
      refine lv_iload hx hb dL_all_210 (lv_at hl 0 rfl) ?_
      refine lv_iconst (v := 0) hx hb dL_all_212 (by decide) ?_
      refine lv_iconst (v := 0) hx hb dL_all_213 (by decide) ?_
      obtain ⟨q21, m22, n23, m24, n25, hcq21, hf, hem, hen⟩ := bt2_of hf
      refine kca_i (vx_runSW (As := [.ref (ad 0 0), .int 10, .int v4, .int 0, .int 0]) (rest := [.long (v2 * 103)]) ⟨hx, hb, hml, hown, hts⟩ (mL_call l hst D dA ad σ _ x mi 10 v4 0 0 q21.1 q21.2 m22 n23 hcq21) (vx_cwSW 5 hts gL_120 rfl rfl rfl (by decide +kernel) ⟨Nat.le_of_ble_eq_true rfl, Nat.le_of_ble_eq_true rfl⟩) (preSA_of hA hR hS hK hX hLX _) rfl rfl hl.1 rfl (lv_room (Nat.le_of_ble_eq_true rfl)) dL_all_214 ⟨nle hm hem, nle hn hen⟩) hA hR hS (fun ad26 H locs hka hLX hR hS => ?_)
      have e27 := (hka 0 0 rfl (by decide)).1
      have hl : lv_has ls 5 [(4, .int v4), (2, .long v2), (0, .ref (ad26 0 0)), (1, .int v1)] := by rw [e27]; exact hl
      have hKA := KA_tr hKA hka (by decide)
      have hm := nadd hm hem
      have hn := nadd hn hen
      refine lv_bipush (v := 101) hx hb dL_all_217 (by decide) ?_
      refine lv_irem hx hb dL_all_219 (by decide) ?_
      refine lv_i2l hx hb dL_all_220 rfl ?_
      refine lv_ladd hx hb dL_all_221 ?_
      refine lv_ldc2 (v := 103) hx hb hown (hts _ q_655) dL_all_222 ?_
      refine lv_lmul hx hb dL_all_225 ?_
      refine lv_aload_n hx hb dL_all_226 rfl (lv_at hl 2 rfl) ?_
      refine lv_bipush (v := 10) hx hb dL_all_227 (by decide) ?_
      refine lv_iload hx hb dL_all_229 (lv_at hl 0 rfl) ?_
      refine lv_iconst (v := 1) hx hb dL_all_231 (by decide) ?_
      refine lv_iconst (v := 0) hx hb dL_all_232 (by decide) ?_
      obtain ⟨q29, m30, n31, m32, n33, hcq29, hf, hem, hen⟩ := bt2_of hf
      refine kca_i (vx_runSW (As := [.ref (ad26 0 0), .int 10, .int v4, .int 1, .int 0]) (rest := [.long (((v2 * 103) + (Int32.toInt64 (q21.1 - q21.1 / 101 * 101))) * 103)]) ⟨hx, hb, hml, hown, hts⟩ (mL_call l hst D dA ad26 q21.2 _ x mi 10 v4 1 0 q29.1 q29.2 m30 n31 hcq29) (vx_cwSW 5 hts gL_120 rfl rfl rfl (by decide +kernel) ⟨Nat.le_of_ble_eq_true rfl, Nat.le_of_ble_eq_true rfl⟩) (preSA_of hA hR hS hK hX hLX _) rfl rfl hl.1 rfl (lv_room (Nat.le_of_ble_eq_true rfl)) dL_all_233 ⟨nle hm hem, nle hn hen⟩) hA hR hS (fun ad34 H locs hka hLX hR hS => ?_)
      have e35 := (hka 0 0 rfl (by decide)).1
      have hl : lv_has ls 5 [(4, .int v4), (2, .long v2), (0, .ref (ad34 0 0)), (1, .int v1)] := by rw [e35]; exact hl
      have hKA := KA_tr hKA hka (by decide)
      have hm := nadd hm hem
      have hn := nadd hn hen
      refine lv_bipush (v := 101) hx hb dL_all_236 (by decide) ?_
      refine lv_irem hx hb dL_all_238 (by decide) ?_
      refine lv_i2l hx hb dL_all_239 rfl ?_
      refine lv_ladd hx hb dL_all_240 ?_
      refine lv_topl (fun x37 hx37 => ?_)
      have hf := kst_eq hx37 hf
      refine lv_lstore_n (lv' := [(2, .long x37), (4, .int v4), (0, .ref (ad34 0 0)), (1, .int v1)]) hx hb dL_all_241 rfl hl (by decide) rfl (fun ls hl => ?_)
      obtain ⟨x38, hx38⟩ : ∃ y : Int32, y = v4 + 1 := ⟨_, rfl⟩
      have hf := kst_eq hx38 hf
      refine lv_iinc (v := x38) (lv' := [(4, .int x38), (2, .long x37), (0, .ref (ad34 0 0)), (1, .int v1)]) hx hb dL_all_242 hl (k := 1) rfl (by rw [hx38]; rfl) (by decide) rfl (fun ls hl => ?_)
      refine lv_goto (tgt := 196) hx hb dL_all_245 (by decide) ?_
      exact ih _ _ _ ad34 _ _ _ _ q29.2 x38 x37 v1 hKA hLX hm hn hR hS (lv_sub hl [0, 1, 2, 3] rfl) hf
def fL_all_L19 : Nat → St → Int32 → Int64 → Int32 → Option ((Int64 × St) × Nat × Nat)
  | 0, _, _, _, _ => none
  | n + 1, σ, v4, v2, v1 => if 5 ≤ v4 then fL_all_L167 (fun s15 y17 y18 y19 => fL_all_L196 (fun s39 y41 y42 y43 => yb (fX5_haircut s39 0) (fun q44 => yb (fX5_haircut q44.2 1) (fun q51 => some ((((y42 * 97) + (Int32.toInt64 q44.1)) + ((Int32.toInt64 q51.1) * 3), q51.2), 0, 0)))) 1000 s15 0 y18 y19) 1000 σ 0 v2 v1 else yb (fX5_cash σ v4) (fun q58 => yb (fX5_equityByTrades q58.2 v4) (fun q65 => yb (fX5_called q65.2 v4) (fun q72 => kst ((((((v2 * 1000003) + (Int32.toInt64 q58.1)) * 1000003) + (Int32.toInt64 q65.1)) * 31) + (Int32.toInt64 q72.1)) (fun x79 => yb (fX5_free q72.2 v4) (fun q80 => yb (fX5_collateral q80.2 v4) (fun q87 => yb (fX5_share q87.2 v4) (fun q94 => yb (fX5_hasFailed q94.2 v4) (fun q101 => if q101.1 = 0 then kst (((((((x79 * 1000003) + (Int32.toInt64 q80.1)) * 1000003) + (Int32.toInt64 q87.1)) * 1000003) + (Int32.toInt64 q94.1)) + (Int32.toInt64 0)) (fun x109 => yb (fX5_position q101.2 v4 0) (fun q110 => yb (fX5_position q110.2 v4 1) (fun q117 => yb (fX5_position q117.2 v4 2) (fun q124 => kst ((((((x109 * 4099) + (Int32.toInt64 q110.1)) * 4099) + (Int32.toInt64 q117.1)) * 4099) + (Int32.toInt64 q124.1)) (fun x131 => kst (v4 + 1) (fun x132 => fL_all_L19 n q124.2 x132 x131 v1)))))) else kst (((((((x79 * 1000003) + (Int32.toInt64 q80.1)) * 1000003) + (Int32.toInt64 q87.1)) * 1000003) + (Int32.toInt64 q94.1)) + (Int32.toInt64 5)) (fun x133 => yb (fX5_position q101.2 v4 0) (fun q134 => yb (fX5_position q134.2 v4 1) (fun q141 => yb (fX5_position q141.2 v4 2) (fun q148 => kst ((((((x133 * 4099) + (Int32.toInt64 q134.1)) * 4099) + (Int32.toInt64 q141.1)) * 4099) + (Int32.toInt64 q148.1)) (fun x155 => kst (v4 + 1) (fun x156 => fL_all_L19 n q148.2 x156 x155 v1))))))))))))))
set_option maxHeartbeats 4000000 in
set_option maxRecDepth 100000 in
theorem wL_all_L19 {p : Program} {l : Launch} {e : Env} {s : State} {m : MethodId} {args : Array Value} {below : List Frame} {meth : Method} {c : Code} {D : va_G} {dA : Nat → ClassId} {A0 : Nat → Prop} {x mi mc ms : Nat} {ad0 : Nat → Nat → Nat} {σ0 : St} {r : Int64} {σ' : St} (hC : CTX p s m args meth c cL_all 5 RL (some .long)) (hK : KS D dA s) (hA : ∀ q, s.heap.size ≤ q → A0 q) (hX : EXT x mi A0 s s.heap) (hst : l.stackTraces = false) : ∀ (n : Nat) (H : Heap) (locs : List Loc) (ls : Array Slot) (ad : Nat → Nat → Nat) (c0 s0 mr sr : Nat) (σ : St) (v4 : Int32) (v2 : Int64) (v1 : Int32), KA [13, 15] ad0 ad σ0 σ → LX ad σ x → mc = c0 + mr → ms = s0 + sr → HC D dA A0 ad σ H → va_S A0 s.heap H locs → lv_has ls 5 [(4, .int v4), (2, .long v2), (0, .ref (ad 0 0)), (1, .int v1)] → fL_all_L19 n σ v4 v2 v1 = some ((r, σ'), mr, sr) → W p l e ({ frames := 13, cells := mc, slots := ms, locals := 325 } : Room) s m args below meth c H locs c0 s0 (MQ below (va_Ql (fun (z : Int64) (ad' : Nat → Nat → Nat) => z = r ∧ KA [13, 15] ad0 ad' σ0 σ' ∧ LX ad' σ' x) (fun ad' t => HC D dA A0 ad' σ' t.heap) A0) args s mc ms A0) (F0 m 19 ls []) := by
  obtain ⟨hx, hb, hml, hown, hts, hr, hlk⟩ := id hC
  intro n
  induction n with
  | zero =>
    intro H locs ls ad c0 s0 mr sr σ v4 v2 v1 hKA hLX hm hn hR hS hl hf
    rw [fL_all_L19.eq_1] at hf
    cases hf
  | succ n ih =>
    intro H locs ls ad c0 s0 mr sr σ v4 v2 v1 hKA hLX hm hn hR hS hl hf
    rw [fL_all_L19.eq_2] at hf
    refine lv_iload hx hb dL_all_19 (lv_at hl 0 rfl) ?_
    refine lv_iconst (v := 5) hx hb dL_all_21 (by decide) ?_
    refine lv_icmp_ge (tgt := 164) hx hb dL_all_22 (by decide) (fun c4 => ?_) (fun c4 => ?_)
    · have hf := if_of_pos hf c4
      refine lv_iconst (v := 0) hx hb dL_all_164 (by decide) ?_
      refine lv_istore (lv' := [(4, .int 0), (2, .long v2), (0, .ref (ad 0 0)), (1, .int v1)]) hx hb dL_all_165 hl (by decide) rfl (fun ls hl => ?_)
      refine wL_all_L167 hC hK hA hX hst (fun H locs ls ad16 cc0 ss0 mm0 nn0 s15 y17 y18 y19 hKA hLX hm hn hR hS hl hf => ?_) 1000 _ _ _ ad _ _ _ _ σ 0 v2 v1 hKA hLX hm hn hR hS (lv_sub hl [0, 1, 2, 3] rfl) hf
      refine lv_iconst (v := 0) hx hb dL_all_193 (by decide) ?_
      refine lv_istore (lv' := [(4, .int 0), (2, .long y18), (0, .ref (ad16 0 0)), (1, .int y19)]) hx hb dL_all_194 hl (by decide) rfl (fun ls hl => ?_)
      refine wL_all_L196 hC hK hA hX hst (fun H locs ls ad40 cc0 ss0 mm0 nn0 s39 y41 y42 y43 hKA hLX hm hn hR hS hl hf => ?_) 1000 _ _ _ ad16 _ _ _ _ s15 0 y18 y19 hKA hLX hm hn hR hS (lv_sub hl [0, 1, 2, 3] rfl) hf
      refine lv_lload_n hx hb dL_all_248 rfl (lv_at hl 1 rfl) ?_
      refine lv_ldc2 (v := 97) hx hb hown (hts _ q_656) dL_all_249 ?_
      refine lv_lmul hx hb dL_all_252 ?_
      refine lv_aload_n hx hb dL_all_253 rfl (lv_at hl 2 rfl) ?_
      refine lv_iconst (v := 0) hx hb dL_all_254 (by decide) ?_
      obtain ⟨q44, m45, n46, m47, n48, hcq44, hf, hem, hen⟩ := yb_of hf
      refine kcx_iR (q := q44) (vx_runV (As := [.int 0]) (rest := [.long (y42 * 97)]) ⟨hx, hb, hml, hown, hts⟩ (mX5_haircut l hst D dA ad40 s39 _ x mi 0 (.inr q44) m45 n46 hcq44) (cwV 1 hts gL_89 rfl rfl rfl (by decide +kernel) ⟨Nat.le_of_ble_eq_true rfl, Nat.le_of_ble_eq_true rfl⟩) (preVA_of hA hR hS hK hX hLX _) rfl rfl hl.1 rfl (lv_room (Nat.le_of_ble_eq_true rfl)) dL_all_255 ⟨nle hm hem, nle hn hen⟩) hA hR hS (fun ad49 H locs hka hLX hR hS => ?_)
      have e50 := (hka 0 0 rfl (by decide)).1
      have hl : lv_has ls 5 [(4, .int y41), (2, .long y42), (0, .ref (ad49 0 0)), (1, .int y43)] := by rw [e50]; exact hl
      have hKA := KA_tr hKA hka (by decide)
      have hm := nadd hm hem
      have hn := nadd hn hen
      refine lv_i2l hx hb dL_all_258 rfl ?_
      refine lv_ladd hx hb dL_all_259 ?_
      refine lv_aload_n hx hb dL_all_260 rfl (lv_at hl 2 rfl) ?_
      refine lv_iconst (v := 1) hx hb dL_all_261 (by decide) ?_
      obtain ⟨q51, m52, n53, m54, n55, hcq51, hf, hem, hen⟩ := yb_of hf
      refine kcx_iR (q := q51) (vx_runV (As := [.int 1]) (rest := [.long ((y42 * 97) + (Int32.toInt64 q44.1))]) ⟨hx, hb, hml, hown, hts⟩ (mX5_haircut l hst D dA ad49 q44.2 _ x mi 1 (.inr q51) m52 n53 hcq51) (cwV 1 hts gL_89 rfl rfl rfl (by decide +kernel) ⟨Nat.le_of_ble_eq_true rfl, Nat.le_of_ble_eq_true rfl⟩) (preVA_of hA hR hS hK hX hLX _) rfl rfl hl.1 rfl (lv_room (Nat.le_of_ble_eq_true rfl)) dL_all_262 ⟨nle hm hem, nle hn hen⟩) hA hR hS (fun ad56 H locs hka hLX hR hS => ?_)
      have e57 := (hka 0 0 rfl (by decide)).1
      have hl : lv_has ls 5 [(4, .int y41), (2, .long y42), (0, .ref (ad56 0 0)), (1, .int y43)] := by rw [e57]; exact hl
      have hKA := KA_tr hKA hka (by decide)
      have hm := nadd hm hem
      have hn := nadd hn hen
      refine lv_i2l hx hb dL_all_265 rfl ?_
      refine lv_ldc2 (v := 3) hx hb hown (hts _ q_657) dL_all_266 ?_
      refine lv_lmul hx hb dL_all_269 ?_
      refine lv_ladd hx hb dL_all_270 ?_
      cases hf
      exact reta_l hC hKA hLX hR hS (nfin hm) (nfin hn) dL_all_271
    · have hf := if_of_neg hf c4
      refine lv_lload_n hx hb dL_all_25 rfl (lv_at hl 1 rfl) ?_
      refine lv_ldc2 (v := 1000003) hx hb hown (hts _ q_651) dL_all_26 ?_
      refine lv_lmul hx hb dL_all_29 ?_
      refine lv_aload_n hx hb dL_all_30 rfl (lv_at hl 2 rfl) ?_
      refine lv_iload hx hb dL_all_31 (lv_at hl 0 rfl) ?_
      obtain ⟨q58, m59, n60, m61, n62, hcq58, hf, hem, hen⟩ := yb_of hf
      refine kcx_iR (q := q58) (vx_runV (As := [.int v4]) (rest := [.long (v2 * 1000003)]) ⟨hx, hb, hml, hown, hts⟩ (mX5_cash l hst D dA ad σ _ x mi v4 (.inr q58) m59 n60 hcq58) (cwV 1 hts gL_77 rfl rfl rfl (by decide +kernel) ⟨Nat.le_of_ble_eq_true rfl, Nat.le_of_ble_eq_true rfl⟩) (preVA_of hA hR hS hK hX hLX _) rfl rfl hl.1 rfl (lv_room (Nat.le_of_ble_eq_true rfl)) dL_all_33 ⟨nle hm hem, nle hn hen⟩) hA hR hS (fun ad63 H locs hka hLX hR hS => ?_)
      have e64 := (hka 0 0 rfl (by decide)).1
      have hl : lv_has ls 5 [(4, .int v4), (2, .long v2), (0, .ref (ad63 0 0)), (1, .int v1)] := by rw [e64]; exact hl
      have hKA := KA_tr hKA hka (by decide)
      have hm := nadd hm hem
      have hn := nadd hn hen
      refine lv_i2l hx hb dL_all_36 rfl ?_
      refine lv_ladd hx hb dL_all_37 ?_
      refine lv_ldc2 (v := 1000003) hx hb hown (hts _ q_651) dL_all_38 ?_
      refine lv_lmul hx hb dL_all_41 ?_
      refine lv_aload_n hx hb dL_all_42 rfl (lv_at hl 2 rfl) ?_
      refine lv_iload hx hb dL_all_43 (lv_at hl 0 rfl) ?_
      obtain ⟨q65, m66, n67, m68, n69, hcq65, hf, hem, hen⟩ := yb_of hf
      refine kcx_iR (q := q65) (vx_runV (As := [.int v4]) (rest := [.long (((v2 * 1000003) + (Int32.toInt64 q58.1)) * 1000003)]) ⟨hx, hb, hml, hown, hts⟩ (mX5_equityByTrades l hst D dA ad63 q58.2 _ x mi v4 (.inr q65) m66 n67 hcq65) (cwV 1 hts gL_83 rfl rfl rfl (by decide +kernel) ⟨Nat.le_of_ble_eq_true rfl, Nat.le_of_ble_eq_true rfl⟩) (preVA_of hA hR hS hK hX hLX _) rfl rfl hl.1 rfl (lv_room (Nat.le_of_ble_eq_true rfl)) dL_all_45 ⟨nle hm hem, nle hn hen⟩) hA hR hS (fun ad70 H locs hka hLX hR hS => ?_)
      have e71 := (hka 0 0 rfl (by decide)).1
      have hl : lv_has ls 5 [(4, .int v4), (2, .long v2), (0, .ref (ad70 0 0)), (1, .int v1)] := by rw [e71]; exact hl
      have hKA := KA_tr hKA hka (by decide)
      have hm := nadd hm hem
      have hn := nadd hn hen
      refine lv_i2l hx hb dL_all_48 rfl ?_
      refine lv_ladd hx hb dL_all_49 ?_
      refine lv_ldc2 (v := 31) hx hb hown (hts _ q_652) dL_all_50 ?_
      refine lv_lmul hx hb dL_all_53 ?_
      refine lv_aload_n hx hb dL_all_54 rfl (lv_at hl 2 rfl) ?_
      refine lv_iload hx hb dL_all_55 (lv_at hl 0 rfl) ?_
      obtain ⟨q72, m73, n74, m75, n76, hcq72, hf, hem, hen⟩ := yb_of hf
      refine kcx_iR (q := q72) (vx_runV (As := [.int v4]) (rest := [.long (((((v2 * 1000003) + (Int32.toInt64 q58.1)) * 1000003) + (Int32.toInt64 q65.1)) * 31)]) ⟨hx, hb, hml, hown, hts⟩ (mX5_called l hst D dA ad70 q65.2 _ x mi v4 (.inr q72) m73 n74 hcq72) (cwV 1 hts gL_67 rfl rfl rfl (by decide +kernel) ⟨Nat.le_of_ble_eq_true rfl, Nat.le_of_ble_eq_true rfl⟩) (preVA_of hA hR hS hK hX hLX _) rfl rfl hl.1 rfl (lv_room (Nat.le_of_ble_eq_true rfl)) dL_all_57 ⟨nle hm hem, nle hn hen⟩) hA hR hS (fun ad77 H locs hka hLX hR hS => ?_)
      have e78 := (hka 0 0 rfl (by decide)).1
      have hl : lv_has ls 5 [(4, .int v4), (2, .long v2), (0, .ref (ad77 0 0)), (1, .int v1)] := by rw [e78]; exact hl
      have hKA := KA_tr hKA hka (by decide)
      have hm := nadd hm hem
      have hn := nadd hn hen
      refine lv_i2l hx hb dL_all_60 rfl ?_
      refine lv_ladd hx hb dL_all_61 ?_
      refine lv_topl (fun x79 hx79 => ?_)
      have hf := kst_eq hx79 hf
      refine lv_lstore_n (lv' := [(2, .long x79), (4, .int v4), (0, .ref (ad77 0 0)), (1, .int v1)]) hx hb dL_all_62 rfl hl (by decide) rfl (fun ls hl => ?_)
      refine lv_lload_n hx hb dL_all_63 rfl (lv_at hl 0 rfl) ?_
      refine lv_ldc2 (v := 1000003) hx hb hown (hts _ q_651) dL_all_64 ?_
      refine lv_lmul hx hb dL_all_67 ?_
      refine lv_aload_n hx hb dL_all_68 rfl (lv_at hl 2 rfl) ?_
      refine lv_iload hx hb dL_all_69 (lv_at hl 1 rfl) ?_
      obtain ⟨q80, m81, n82, m83, n84, hcq80, hf, hem, hen⟩ := yb_of hf
      refine kcx_iR (q := q80) (vx_runV (As := [.int v4]) (rest := [.long (x79 * 1000003)]) ⟨hx, hb, hml, hown, hts⟩ (mX5_free l hst D dA ad77 q72.2 _ x mi v4 (.inr q80) m81 n82 hcq80) (cwV 1 hts gL_95 rfl rfl rfl (by decide +kernel) ⟨Nat.le_of_ble_eq_true rfl, Nat.le_of_ble_eq_true rfl⟩) (preVA_of hA hR hS hK hX hLX _) rfl rfl hl.1 rfl (lv_room (Nat.le_of_ble_eq_true rfl)) dL_all_71 ⟨nle hm hem, nle hn hen⟩) hA hR hS (fun ad85 H locs hka hLX hR hS => ?_)
      have e86 := (hka 0 0 rfl (by decide)).1
      have hl : lv_has ls 5 [(2, .long x79), (4, .int v4), (0, .ref (ad85 0 0)), (1, .int v1)] := by rw [e86]; exact hl
      have hKA := KA_tr hKA hka (by decide)
      have hm := nadd hm hem
      have hn := nadd hn hen
      refine lv_i2l hx hb dL_all_74 rfl ?_
      refine lv_ladd hx hb dL_all_75 ?_
      refine lv_ldc2 (v := 1000003) hx hb hown (hts _ q_651) dL_all_76 ?_
      refine lv_lmul hx hb dL_all_79 ?_
      refine lv_aload_n hx hb dL_all_80 rfl (lv_at hl 2 rfl) ?_
      refine lv_iload hx hb dL_all_81 (lv_at hl 1 rfl) ?_
      obtain ⟨q87, m88, n89, m90, n91, hcq87, hf, hem, hen⟩ := yb_of hf
      refine kcx_iR (q := q87) (vx_runV (As := [.int v4]) (rest := [.long (((x79 * 1000003) + (Int32.toInt64 q80.1)) * 1000003)]) ⟨hx, hb, hml, hown, hts⟩ (mX5_collateral l hst D dA ad85 q80.2 _ x mi v4 (.inr q87) m88 n89 hcq87) (cwV 1 hts gL_92 rfl rfl rfl (by decide +kernel) ⟨Nat.le_of_ble_eq_true rfl, Nat.le_of_ble_eq_true rfl⟩) (preVA_of hA hR hS hK hX hLX _) rfl rfl hl.1 rfl (lv_room (Nat.le_of_ble_eq_true rfl)) dL_all_83 ⟨nle hm hem, nle hn hen⟩) hA hR hS (fun ad92 H locs hka hLX hR hS => ?_)
      have e93 := (hka 0 0 rfl (by decide)).1
      have hl : lv_has ls 5 [(2, .long x79), (4, .int v4), (0, .ref (ad92 0 0)), (1, .int v1)] := by rw [e93]; exact hl
      have hKA := KA_tr hKA hka (by decide)
      have hm := nadd hm hem
      have hn := nadd hn hen
      refine lv_i2l hx hb dL_all_86 rfl ?_
      refine lv_ladd hx hb dL_all_87 ?_
      refine lv_ldc2 (v := 1000003) hx hb hown (hts _ q_651) dL_all_88 ?_
      refine lv_lmul hx hb dL_all_91 ?_
      refine lv_aload_n hx hb dL_all_92 rfl (lv_at hl 2 rfl) ?_
      refine lv_iload hx hb dL_all_93 (lv_at hl 1 rfl) ?_
      obtain ⟨q94, m95, n96, m97, n98, hcq94, hf, hem, hen⟩ := yb_of hf
      refine kcx_iR (q := q94) (vx_runV (As := [.int v4]) (rest := [.long (((((x79 * 1000003) + (Int32.toInt64 q80.1)) * 1000003) + (Int32.toInt64 q87.1)) * 1000003)]) ⟨hx, hb, hml, hown, hts⟩ (mX5_share l hst D dA ad92 q87.2 _ x mi v4 (.inr q94) m95 n96 hcq94) (cwV 1 hts gL_98 rfl rfl rfl (by decide +kernel) ⟨Nat.le_of_ble_eq_true rfl, Nat.le_of_ble_eq_true rfl⟩) (preVA_of hA hR hS hK hX hLX _) rfl rfl hl.1 rfl (lv_room (Nat.le_of_ble_eq_true rfl)) dL_all_95 ⟨nle hm hem, nle hn hen⟩) hA hR hS (fun ad99 H locs hka hLX hR hS => ?_)
      have e100 := (hka 0 0 rfl (by decide)).1
      have hl : lv_has ls 5 [(2, .long x79), (4, .int v4), (0, .ref (ad99 0 0)), (1, .int v1)] := by rw [e100]; exact hl
      have hKA := KA_tr hKA hka (by decide)
      have hm := nadd hm hem
      have hn := nadd hn hen
      refine lv_i2l hx hb dL_all_98 rfl ?_
      refine lv_ladd hx hb dL_all_99 ?_
      refine lv_aload_n hx hb dL_all_100 rfl (lv_at hl 2 rfl) ?_
      refine lv_iload hx hb dL_all_101 (lv_at hl 1 rfl) ?_
      obtain ⟨q101, m102, n103, m104, n105, hcq101, hf, hem, hen⟩ := yb_of hf
      refine kcx_iR (q := q101) (vx_runV (As := [.int v4]) (rest := [.long ((((((x79 * 1000003) + (Int32.toInt64 q80.1)) * 1000003) + (Int32.toInt64 q87.1)) * 1000003) + (Int32.toInt64 q94.1))]) ⟨hx, hb, hml, hown, hts⟩ (mX5_hasFailed l hst D dA ad99 q94.2 _ x mi v4 (.inr q101) m102 n103 hcq101) (cwV 1 hts gL_70 rfl rfl rfl (by decide +kernel) ⟨Nat.le_of_ble_eq_true rfl, Nat.le_of_ble_eq_true rfl⟩) (preVA_of hA hR hS hK hX hLX _) rfl rfl hl.1 rfl (lv_room (Nat.le_of_ble_eq_true rfl)) dL_all_103 ⟨nle hm hem, nle hn hen⟩) hA hR hS (fun ad106 H locs hka hLX hR hS => ?_)
      have e107 := (hka 0 0 rfl (by decide)).1
      have hl : lv_has ls 5 [(2, .long x79), (4, .int v4), (0, .ref (ad106 0 0)), (1, .int v1)] := by rw [e107]; exact hl
      have hKA := KA_tr hKA hka (by decide)
      have hm := nadd hm hem
      have hn := nadd hn hen
      refine lv_if_eq (tgt := 113) hx hb dL_all_106 (by decide) (fun c108 => ?_) (fun c108 => ?_)
      · have hf := if_of_pos hf c108
        refine lv_iconst (v := 0) hx hb dL_all_113 (by decide) ?_
        refine lv_i2l hx hb dL_all_114 rfl ?_
        refine lv_ladd hx hb dL_all_115 ?_
        refine lv_topl (fun x109 hx109 => ?_)
        have hf := kst_eq hx109 hf
        refine lv_lstore_n (lv' := [(2, .long x109), (4, .int v4), (0, .ref (ad106 0 0)), (1, .int v1)]) hx hb dL_all_116 rfl hl (by decide) rfl (fun ls hl => ?_)
        refine lv_lload_n hx hb dL_all_117 rfl (lv_at hl 0 rfl) ?_
        refine lv_ldc2 (v := 4099) hx hb hown (hts _ q_653) dL_all_118 ?_
        refine lv_lmul hx hb dL_all_121 ?_
        refine lv_aload_n hx hb dL_all_122 rfl (lv_at hl 2 rfl) ?_
        refine lv_iload hx hb dL_all_123 (lv_at hl 1 rfl) ?_
        refine lv_iconst (v := 0) hx hb dL_all_125 (by decide) ?_
        obtain ⟨q110, m111, n112, m113, n114, hcq110, hf, hem, hen⟩ := yb_of hf
        refine kcx_iR (q := q110) (vx_runV (As := [.int v4, .int 0]) (rest := [.long (x109 * 4099)]) ⟨hx, hb, hml, hown, hts⟩ (mX5_position l hst D dA ad106 q101.2 _ x mi v4 0 (.inr q110) m111 n112 hcq110) (cwV 2 hts gL_74 rfl rfl rfl (by decide +kernel) ⟨Nat.le_of_ble_eq_true rfl, Nat.le_of_ble_eq_true rfl⟩) (preVA_of hA hR hS hK hX hLX _) rfl rfl hl.1 rfl (lv_room (Nat.le_of_ble_eq_true rfl)) dL_all_126 ⟨nle hm hem, nle hn hen⟩) hA hR hS (fun ad115 H locs hka hLX hR hS => ?_)
        have e116 := (hka 0 0 rfl (by decide)).1
        have hl : lv_has ls 5 [(2, .long x109), (4, .int v4), (0, .ref (ad115 0 0)), (1, .int v1)] := by rw [e116]; exact hl
        have hKA := KA_tr hKA hka (by decide)
        have hm := nadd hm hem
        have hn := nadd hn hen
        refine lv_i2l hx hb dL_all_129 rfl ?_
        refine lv_ladd hx hb dL_all_130 ?_
        refine lv_ldc2 (v := 4099) hx hb hown (hts _ q_653) dL_all_131 ?_
        refine lv_lmul hx hb dL_all_134 ?_
        refine lv_aload_n hx hb dL_all_135 rfl (lv_at hl 2 rfl) ?_
        refine lv_iload hx hb dL_all_136 (lv_at hl 1 rfl) ?_
        refine lv_iconst (v := 1) hx hb dL_all_138 (by decide) ?_
        obtain ⟨q117, m118, n119, m120, n121, hcq117, hf, hem, hen⟩ := yb_of hf
        refine kcx_iR (q := q117) (vx_runV (As := [.int v4, .int 1]) (rest := [.long (((x109 * 4099) + (Int32.toInt64 q110.1)) * 4099)]) ⟨hx, hb, hml, hown, hts⟩ (mX5_position l hst D dA ad115 q110.2 _ x mi v4 1 (.inr q117) m118 n119 hcq117) (cwV 2 hts gL_74 rfl rfl rfl (by decide +kernel) ⟨Nat.le_of_ble_eq_true rfl, Nat.le_of_ble_eq_true rfl⟩) (preVA_of hA hR hS hK hX hLX _) rfl rfl hl.1 rfl (lv_room (Nat.le_of_ble_eq_true rfl)) dL_all_139 ⟨nle hm hem, nle hn hen⟩) hA hR hS (fun ad122 H locs hka hLX hR hS => ?_)
        have e123 := (hka 0 0 rfl (by decide)).1
        have hl : lv_has ls 5 [(2, .long x109), (4, .int v4), (0, .ref (ad122 0 0)), (1, .int v1)] := by rw [e123]; exact hl
        have hKA := KA_tr hKA hka (by decide)
        have hm := nadd hm hem
        have hn := nadd hn hen
        refine lv_i2l hx hb dL_all_142 rfl ?_
        refine lv_ladd hx hb dL_all_143 ?_
        refine lv_ldc2 (v := 4099) hx hb hown (hts _ q_653) dL_all_144 ?_
        refine lv_lmul hx hb dL_all_147 ?_
        refine lv_aload_n hx hb dL_all_148 rfl (lv_at hl 2 rfl) ?_
        refine lv_iload hx hb dL_all_149 (lv_at hl 1 rfl) ?_
        refine lv_iconst (v := 2) hx hb dL_all_151 (by decide) ?_
        obtain ⟨q124, m125, n126, m127, n128, hcq124, hf, hem, hen⟩ := yb_of hf
        refine kcx_iR (q := q124) (vx_runV (As := [.int v4, .int 2]) (rest := [.long (((((x109 * 4099) + (Int32.toInt64 q110.1)) * 4099) + (Int32.toInt64 q117.1)) * 4099)]) ⟨hx, hb, hml, hown, hts⟩ (mX5_position l hst D dA ad122 q117.2 _ x mi v4 2 (.inr q124) m125 n126 hcq124) (cwV 2 hts gL_74 rfl rfl rfl (by decide +kernel) ⟨Nat.le_of_ble_eq_true rfl, Nat.le_of_ble_eq_true rfl⟩) (preVA_of hA hR hS hK hX hLX _) rfl rfl hl.1 rfl (lv_room (Nat.le_of_ble_eq_true rfl)) dL_all_152 ⟨nle hm hem, nle hn hen⟩) hA hR hS (fun ad129 H locs hka hLX hR hS => ?_)
        have e130 := (hka 0 0 rfl (by decide)).1
        have hl : lv_has ls 5 [(2, .long x109), (4, .int v4), (0, .ref (ad129 0 0)), (1, .int v1)] := by rw [e130]; exact hl
        have hKA := KA_tr hKA hka (by decide)
        have hm := nadd hm hem
        have hn := nadd hn hen
        refine lv_i2l hx hb dL_all_155 rfl ?_
        refine lv_ladd hx hb dL_all_156 ?_
        refine lv_topl (fun x131 hx131 => ?_)
        have hf := kst_eq hx131 hf
        refine lv_lstore_n (lv' := [(2, .long x131), (4, .int v4), (0, .ref (ad129 0 0)), (1, .int v1)]) hx hb dL_all_157 rfl hl (by decide) rfl (fun ls hl => ?_)
        obtain ⟨x132, hx132⟩ : ∃ y : Int32, y = v4 + 1 := ⟨_, rfl⟩
        have hf := kst_eq hx132 hf
        refine lv_iinc (v := x132) (lv' := [(4, .int x132), (2, .long x131), (0, .ref (ad129 0 0)), (1, .int v1)]) hx hb dL_all_158 hl (k := 1) rfl (by rw [hx132]; rfl) (by decide) rfl (fun ls hl => ?_)
        refine lv_goto (tgt := 19) hx hb dL_all_161 (by decide) ?_
        exact ih _ _ _ ad129 _ _ _ _ q124.2 x132 x131 v1 hKA hLX hm hn hR hS (lv_sub hl [0, 1, 2, 3] rfl) hf
      · have hf := if_of_neg hf c108
        refine lv_iconst (v := 5) hx hb dL_all_109 (by decide) ?_
        refine lv_goto (tgt := 114) hx hb dL_all_110 (by decide) ?_
        refine lv_i2l hx hb dL_all_114 rfl ?_
        refine lv_ladd hx hb dL_all_115 ?_
        refine lv_topl (fun x133 hx133 => ?_)
        have hf := kst_eq hx133 hf
        refine lv_lstore_n (lv' := [(2, .long x133), (4, .int v4), (0, .ref (ad106 0 0)), (1, .int v1)]) hx hb dL_all_116 rfl hl (by decide) rfl (fun ls hl => ?_)
        refine lv_lload_n hx hb dL_all_117 rfl (lv_at hl 0 rfl) ?_
        refine lv_ldc2 (v := 4099) hx hb hown (hts _ q_653) dL_all_118 ?_
        refine lv_lmul hx hb dL_all_121 ?_
        refine lv_aload_n hx hb dL_all_122 rfl (lv_at hl 2 rfl) ?_
        refine lv_iload hx hb dL_all_123 (lv_at hl 1 rfl) ?_
        refine lv_iconst (v := 0) hx hb dL_all_125 (by decide) ?_
        obtain ⟨q134, m135, n136, m137, n138, hcq134, hf, hem, hen⟩ := yb_of hf
        refine kcx_iR (q := q134) (vx_runV (As := [.int v4, .int 0]) (rest := [.long (x133 * 4099)]) ⟨hx, hb, hml, hown, hts⟩ (mX5_position l hst D dA ad106 q101.2 _ x mi v4 0 (.inr q134) m135 n136 hcq134) (cwV 2 hts gL_74 rfl rfl rfl (by decide +kernel) ⟨Nat.le_of_ble_eq_true rfl, Nat.le_of_ble_eq_true rfl⟩) (preVA_of hA hR hS hK hX hLX _) rfl rfl hl.1 rfl (lv_room (Nat.le_of_ble_eq_true rfl)) dL_all_126 ⟨nle hm hem, nle hn hen⟩) hA hR hS (fun ad139 H locs hka hLX hR hS => ?_)
        have e140 := (hka 0 0 rfl (by decide)).1
        have hl : lv_has ls 5 [(2, .long x133), (4, .int v4), (0, .ref (ad139 0 0)), (1, .int v1)] := by rw [e140]; exact hl
        have hKA := KA_tr hKA hka (by decide)
        have hm := nadd hm hem
        have hn := nadd hn hen
        refine lv_i2l hx hb dL_all_129 rfl ?_
        refine lv_ladd hx hb dL_all_130 ?_
        refine lv_ldc2 (v := 4099) hx hb hown (hts _ q_653) dL_all_131 ?_
        refine lv_lmul hx hb dL_all_134 ?_
        refine lv_aload_n hx hb dL_all_135 rfl (lv_at hl 2 rfl) ?_
        refine lv_iload hx hb dL_all_136 (lv_at hl 1 rfl) ?_
        refine lv_iconst (v := 1) hx hb dL_all_138 (by decide) ?_
        obtain ⟨q141, m142, n143, m144, n145, hcq141, hf, hem, hen⟩ := yb_of hf
        refine kcx_iR (q := q141) (vx_runV (As := [.int v4, .int 1]) (rest := [.long (((x133 * 4099) + (Int32.toInt64 q134.1)) * 4099)]) ⟨hx, hb, hml, hown, hts⟩ (mX5_position l hst D dA ad139 q134.2 _ x mi v4 1 (.inr q141) m142 n143 hcq141) (cwV 2 hts gL_74 rfl rfl rfl (by decide +kernel) ⟨Nat.le_of_ble_eq_true rfl, Nat.le_of_ble_eq_true rfl⟩) (preVA_of hA hR hS hK hX hLX _) rfl rfl hl.1 rfl (lv_room (Nat.le_of_ble_eq_true rfl)) dL_all_139 ⟨nle hm hem, nle hn hen⟩) hA hR hS (fun ad146 H locs hka hLX hR hS => ?_)
        have e147 := (hka 0 0 rfl (by decide)).1
        have hl : lv_has ls 5 [(2, .long x133), (4, .int v4), (0, .ref (ad146 0 0)), (1, .int v1)] := by rw [e147]; exact hl
        have hKA := KA_tr hKA hka (by decide)
        have hm := nadd hm hem
        have hn := nadd hn hen
        refine lv_i2l hx hb dL_all_142 rfl ?_
        refine lv_ladd hx hb dL_all_143 ?_
        refine lv_ldc2 (v := 4099) hx hb hown (hts _ q_653) dL_all_144 ?_
        refine lv_lmul hx hb dL_all_147 ?_
        refine lv_aload_n hx hb dL_all_148 rfl (lv_at hl 2 rfl) ?_
        refine lv_iload hx hb dL_all_149 (lv_at hl 1 rfl) ?_
        refine lv_iconst (v := 2) hx hb dL_all_151 (by decide) ?_
        obtain ⟨q148, m149, n150, m151, n152, hcq148, hf, hem, hen⟩ := yb_of hf
        refine kcx_iR (q := q148) (vx_runV (As := [.int v4, .int 2]) (rest := [.long (((((x133 * 4099) + (Int32.toInt64 q134.1)) * 4099) + (Int32.toInt64 q141.1)) * 4099)]) ⟨hx, hb, hml, hown, hts⟩ (mX5_position l hst D dA ad146 q141.2 _ x mi v4 2 (.inr q148) m149 n150 hcq148) (cwV 2 hts gL_74 rfl rfl rfl (by decide +kernel) ⟨Nat.le_of_ble_eq_true rfl, Nat.le_of_ble_eq_true rfl⟩) (preVA_of hA hR hS hK hX hLX _) rfl rfl hl.1 rfl (lv_room (Nat.le_of_ble_eq_true rfl)) dL_all_152 ⟨nle hm hem, nle hn hen⟩) hA hR hS (fun ad153 H locs hka hLX hR hS => ?_)
        have e154 := (hka 0 0 rfl (by decide)).1
        have hl : lv_has ls 5 [(2, .long x133), (4, .int v4), (0, .ref (ad153 0 0)), (1, .int v1)] := by rw [e154]; exact hl
        have hKA := KA_tr hKA hka (by decide)
        have hm := nadd hm hem
        have hn := nadd hn hen
        refine lv_i2l hx hb dL_all_155 rfl ?_
        refine lv_ladd hx hb dL_all_156 ?_
        refine lv_topl (fun x155 hx155 => ?_)
        have hf := kst_eq hx155 hf
        refine lv_lstore_n (lv' := [(2, .long x155), (4, .int v4), (0, .ref (ad153 0 0)), (1, .int v1)]) hx hb dL_all_157 rfl hl (by decide) rfl (fun ls hl => ?_)
        obtain ⟨x156, hx156⟩ : ∃ y : Int32, y = v4 + 1 := ⟨_, rfl⟩
        have hf := kst_eq hx156 hf
        refine lv_iinc (v := x156) (lv' := [(4, .int x156), (2, .long x155), (0, .ref (ad153 0 0)), (1, .int v1)]) hx hb dL_all_158 hl (k := 1) rfl (by rw [hx156]; rfl) (by decide) rfl (fun ls hl => ?_)
        refine lv_goto (tgt := 19) hx hb dL_all_161 (by decide) ?_
        exact ih _ _ _ ad153 _ _ _ _ q148.2 x156 x155 v1 hKA hLX hm hn hR hS (lv_sub hl [0, 1, 2, 3] rfl) hf
def fL_all (σ : St) (a2 : Int32) : Option ((Int64 × St) × Nat × Nat) := bd (fX5_trades σ) (fun q1 => bd (fX5_unpaid σ) (fun q2 => kst (((Int32.toInt64 q1) * 7) + (Int32.toInt64 q2)) (fun x3 => fL_all_L19 1000 σ 0 x3 a2)))
set_option maxHeartbeats 4000000 in
set_option maxRecDepth 100000 in
theorem mL_all (l : Launch) (hst : l.stackTraces = false) (D : va_G) (dA : Nat → ClassId) (ad : Nat → Nat → Nat) (σ : St) (sz x mi : Nat) (a2 : Int32) (r : Int64) (σ' : St) (mc ms : Nat) (hf : fL_all σ a2 = some ((r, σ'), mc, ms)) : Met l yL_all (WSy yL_all cL_all 5 (some .long)) ({ frames := 13, cells := mc, slots := ms, locals := 325 } : Room) (va_Pc [.ref (ad 0 0), .int a2] (PreA D dA ad σ x mi sz)) (va_Ql (fun (z : Int64) (ad' : Nat → Nat → Nat) => z = r ∧ KA [13, 15] ad ad' σ σ' ∧ LX ad' σ' x) (fun ad' t => HC D dA (WA ad (cvC σ) sz) ad' σ' t.heap) (WA ad (cvC σ) sz)) mc ms (WA ad (cvC σ) sz) := by
  refine met_of (by decide) (Nat.le_of_ble_eq_true rfl) ?_
  intro p e s m below meth c ls hC hB hl
  obtain ⟨rfl, hR, hK, hX, hLX⟩ := hB
  have hA : ∀ q : Nat, s.heap.size ≤ q → WA ad (cvC σ) s.heap.size q := fun q h => Or.inr h
  have hR := WW_fit (B := WA ad (cvC σ) s.heap.size) hR (fun f i h => WA_in h)
  have hS : va_S (WA ad (cvC σ) s.heap.size) s.heap s.heap [] := va_S.rf
  generalize WA ad (cvC σ) s.heap.size = A0 at hA hR hS hX ⊢
  have hC : CTX p s m _ meth c cL_all 5 RL (some .long) := hC
  obtain ⟨hx, hb, hml, hown, hts, hr, hlk⟩ := id hC
  have hl : lv_has ls 5 [(0, .ref (ad 0 0)), (1, .int a2)] := hl
  have hKA : KA [13, 15] ad ad σ σ := KA_rf _ _ _
  have hm : mc = 0 + mc := (Nat.zero_add mc).symm
  have hn : ms = 0 + ms := (Nat.zero_add ms).symm
  unfold fL_all at hf
  refine lv_aload_n hx hb dL_all_0 rfl (lv_at hl 0 rfl) ?_
  obtain ⟨q1, hcq1, hf⟩ := bd_of hf
  refine kc_i (va_runV (As := []) (rest := []) ⟨hx, hb, hml, hown, hts⟩ (mX5_trades l D dA ad σ _ q1 hcq1) (cwV 0 hts gL_101 rfl rfl rfl (by decide +kernel) ⟨Nat.le_of_ble_eq_true rfl, Nat.le_of_ble_eq_true rfl⟩) (preV_of hR hK (f := 0) (i := 0) rfl rfl rfl _) rfl rfl hl.1 rfl (lv_room (Nat.le_of_ble_eq_true rfl)) dL_all_1 ⟨nle0 hm, nle0 hn⟩) hA hR hS (fun H locs hR hS => ?_)
  refine lv_i2l hx hb dL_all_4 rfl ?_
  refine lv_ldc2 (v := 7) hx hb hown (hts _ q_646) dL_all_5 ?_
  refine lv_lmul hx hb dL_all_8 ?_
  refine lv_aload_n hx hb dL_all_9 rfl (lv_at hl 0 rfl) ?_
  obtain ⟨q2, hcq2, hf⟩ := bd_of hf
  refine kc_i (va_runV (As := []) (rest := [.long ((Int32.toInt64 q1) * 7)]) ⟨hx, hb, hml, hown, hts⟩ (mX5_unpaid l D dA ad σ _ q2 hcq2) (cwV 0 hts gL_107 rfl rfl rfl (by decide +kernel) ⟨Nat.le_of_ble_eq_true rfl, Nat.le_of_ble_eq_true rfl⟩) (preV_of hR hK (f := 0) (i := 0) rfl rfl rfl _) rfl rfl hl.1 rfl (lv_room (Nat.le_of_ble_eq_true rfl)) dL_all_10 ⟨nle0 hm, nle0 hn⟩) hA hR hS (fun H locs hR hS => ?_)
  refine lv_i2l hx hb dL_all_13 rfl ?_
  refine lv_ladd hx hb dL_all_14 ?_
  refine lv_topl (fun x3 hx3 => ?_)
  have hf := kst_eq hx3 hf
  refine lv_lstore_n (lv' := [(2, .long x3), (0, .ref (ad 0 0)), (1, .int a2)]) hx hb dL_all_15 rfl hl (by decide) rfl (fun ls hl => ?_)
  refine lv_iconst (v := 0) hx hb dL_all_16 (by decide) ?_
  refine lv_istore (lv' := [(4, .int 0), (2, .long x3), (0, .ref (ad 0 0)), (1, .int a2)]) hx hb dL_all_17 hl (by decide) rfl (fun ls hl => ?_)
  exact wL_all_L19 hC hK hA hX hst 1000 _ _ _ ad _ _ _ _ σ 0 x3 a2 hKA hLX hm hn hR hS (lv_sub hl [0, 1, 2, 3] rfl) hf
def fL_refused (σ : St) (a2 : Int32) : Option ((Int32 × St) × Nat × Nat) := bt2 (fL_all σ a2) (fun q1 => bt2 (fL_call q1.2 0 (-1) 5 0) (fun q8 => if ¬ q8.1 = (-2000000002) then some ((0, q8.2), 0, 0) else bt2 (fL_call q8.2 0 0 (-1) 0) (fun q17 => if ¬ q17.1 = (-2000000002) then some ((0, q17.2), 0, 0) else bt2 (fL_call q17.2 1 (-1) 0 0) (fun q26 => if ¬ q26.1 = (-2000000002) then some ((0, q26.2), 0, 0) else bt2 (fL_call q26.2 1 0 (-1) 0) (fun q35 => if ¬ q35.1 = (-2000000002) then some ((0, q35.2), 0, 0) else bt2 (fL_call q35.2 2 (-1) 5 0) (fun q44 => if ¬ q44.1 = (-2000000002) then some ((0, q44.2), 0, 0) else bt2 (fL_call q44.2 2 1 10000 0) (fun q53 => if ¬ q53.1 = (-2000000002) then some ((0, q53.2), 0, 0) else bt2 (fL_call q53.2 3 (-1) 0 0) (fun q62 => if ¬ q62.1 = (-2000000002) then some ((0, q62.2), 0, 0) else bt2 (fL_call q62.2 3 0 100001 0) (fun q71 => if ¬ q71.1 = (-2000000002) then some ((0, q71.2), 0, 0) else bt2 (fL_call q71.2 4 (-1) 0 0) (fun q80 => if ¬ q80.1 = (-2000000002) then some ((0, q80.2), 0, 0) else bt2 (fL_call q80.2 4 0 (-1) 0) (fun q89 => if ¬ q89.1 = (-2000000002) then some ((0, q89.2), 0, 0) else bt2 (fL_call q89.2 5 5 1 0) (fun q98 => if ¬ q98.1 = (-2000000002) then some ((0, q98.2), 0, 0) else bt2 (fL_call q98.2 5 0 (-1) 0) (fun q107 => if ¬ q107.1 = (-2000000002) then some ((0, q107.2), 0, 0) else bt2 (fL_call q107.2 6 (-1) 0 12802) (fun q116 => if ¬ q116.1 = (-2000000002) then some ((0, q116.2), 0, 0) else bt2 (fL_call q116.2 6 0 (-1) 12802) (fun q125 => if ¬ q125.1 = (-2000000002) then some ((0, q125.2), 0, 0) else bt2 (fL_call q125.2 6 0 0 12902) (fun q134 => if ¬ q134.1 = (-2000000002) then some ((0, q134.2), 0, 0) else bt2 (fL_call q134.2 7 a2 0 0) (fun q144 => if ¬ q144.1 = (-2000000001) then some ((0, q144.2), 0, 0) else bt2 (fL_call q144.2 7 (-1) 0 0) (fun q152 => if ¬ q152.1 = (-2000000001) then some ((0, q152.2), 0, 0) else bt2 (fL_call q152.2 8 (-1) 1 0) (fun q160 => if ¬ q160.1 = (-2000000002) then some ((0, q160.2), 0, 0) else bt2 (fL_call q160.2 9 a2 0 0) (fun q168 => if ¬ q168.1 = (-2000000001) then some ((0, q168.2), 0, 0) else bt2 (fL_call q168.2 10 3 0 0) (fun q176 => if ¬ q176.1 = (-2000000002) then some ((0, q176.2), 0, 0) else bt2 (fL_call q176.2 11 5 0 0) (fun q184 => if ¬ q184.1 = (-2000000002) then some ((0, q184.2), 0, 0) else bt2 (fL_call q184.2 13 5 0 0) (fun q192 => if ¬ q192.1 = (-2000000002) then some ((0, q192.2), 0, 0) else bt2 (fL_call q192.2 18 (-1) 0 0) (fun q200 => if ¬ q200.1 = (-2000000002) then some ((0, q200.2), 0, 0) else bt2 (fL_call q200.2 20 (-1) 0 0) (fun q208 => if ¬ q208.1 = (-2000000002) then some ((0, q208.2), 0, 0) else bt2 (fL_all q208.2 a2) (fun q216 => if ¬ q216.1 = q1.1 then some ((0, q216.2), 0, 0) else some ((1, q216.2), 0, 0)))))))))))))))))))))))))))
set_option maxHeartbeats 4000000 in
set_option maxRecDepth 100000 in
theorem mL_refused (l : Launch) (hst : l.stackTraces = false) (D : va_G) (dA : Nat → ClassId) (ad : Nat → Nat → Nat) (σ : St) (sz x mi : Nat) (a2 : Int32) (r : Int32) (σ' : St) (mc ms : Nat) (hf : fL_refused σ a2 = some ((r, σ'), mc, ms)) : Met l yL_refused (WSy yL_refused cL_refused 5 (some .boolean)) ({ frames := 14, cells := mc, slots := ms, locals := 349 } : Room) (va_Pc [.ref (ad 0 0), .int a2] (PreA D dA ad σ x mi sz)) (va_Qi (fun (z : Int32) (ad' : Nat → Nat → Nat) => z = r ∧ KA [13, 15] ad ad' σ σ' ∧ LX ad' σ' x) (fun ad' t => HC D dA (WA ad (cvC σ) sz) ad' σ' t.heap) (WA ad (cvC σ) sz)) mc ms (WA ad (cvC σ) sz) := by
  refine met_of (by decide) (Nat.le_of_ble_eq_true rfl) ?_
  intro p e s m below meth c ls hC hB hl
  obtain ⟨rfl, hR, hK, hX, hLX⟩ := hB
  have hA : ∀ q : Nat, s.heap.size ≤ q → WA ad (cvC σ) s.heap.size q := fun q h => Or.inr h
  have hR := WW_fit (B := WA ad (cvC σ) s.heap.size) hR (fun f i h => WA_in h)
  have hS : va_S (WA ad (cvC σ) s.heap.size) s.heap s.heap [] := va_S.rf
  generalize WA ad (cvC σ) s.heap.size = A0 at hA hR hS hX ⊢
  have hC : CTX p s m _ meth c cL_refused 5 RL (some .boolean) := hC
  obtain ⟨hx, hb, hml, hown, hts, hr, hlk⟩ := id hC
  have hl : lv_has ls 5 [(0, .ref (ad 0 0)), (1, .int a2)] := hl
  have hKA : KA [13, 15] ad ad σ σ := KA_rf _ _ _
  have hm : mc = 0 + mc := (Nat.zero_add mc).symm
  have hn : ms = 0 + ms := (Nat.zero_add ms).symm
  unfold fL_refused at hf
  refine lv_aload_n hx hb dL_refused_0 rfl (lv_at hl 0 rfl) ?_
  refine lv_iload_n hx hb dL_refused_1 rfl (lv_at hl 1 rfl) ?_
  obtain ⟨q1, m2, n3, m4, n5, hcq1, hf, hem, hen⟩ := bt2_of hf
  refine kca_l (va_runS (As := [.ref (ad 0 0), .int a2]) (rest := []) ⟨hx, hb, hml, hown, hts⟩ (mL_all l hst D dA ad σ _ x mi a2 q1.1 q1.2 m2 n3 hcq1) (va_cwS 2 hts gL_135 rfl rfl rfl (by decide +kernel) ⟨Nat.le_of_ble_eq_true rfl, Nat.le_of_ble_eq_true rfl⟩) (preSA_of hA hR hS hK hX hLX _) rfl rfl hl.1 rfl (lv_room (Nat.le_of_ble_eq_true rfl)) dL_refused_2 ⟨nle hm hem, nle hn hen⟩) hA hR hS (fun ad6 H locs hka hLX hR hS => ?_)
  have e7 := (hka 0 0 rfl (by decide)).1
  have hl : lv_has ls 5 [(0, .ref (ad6 0 0)), (1, .int a2)] := by rw [e7]; exact hl
  have hKA := KA_tr hKA hka (by decide)
  have hm := nadd hm hem
  have hn := nadd hn hen
  refine lv_lstore_n (lv' := [(2, .long q1.1), (0, .ref (ad6 0 0)), (1, .int a2)]) hx hb dL_refused_5 rfl hl (by decide) rfl (fun ls hl => ?_)
  refine lv_aload_n hx hb dL_refused_6 rfl (lv_at hl 1 rfl) ?_
  refine lv_iconst (v := 0) hx hb dL_refused_7 (by decide) ?_
  refine lv_iconst (v := (-1)) hx hb dL_refused_8 (by decide) ?_
  refine lv_iconst (v := 5) hx hb dL_refused_9 (by decide) ?_
  refine lv_iconst (v := 0) hx hb dL_refused_10 (by decide) ?_
  obtain ⟨q8, m9, n10, m11, n12, hcq8, hf, hem, hen⟩ := bt2_of hf
  refine kca_i (vx_runSW (As := [.ref (ad6 0 0), .int 0, .int (-1), .int 5, .int 0]) (rest := []) ⟨hx, hb, hml, hown, hts⟩ (mL_call l hst D dA ad6 q1.2 _ x mi 0 (-1) 5 0 q8.1 q8.2 m9 n10 hcq8) (vx_cwSW 5 hts gL_120 rfl rfl rfl (by decide +kernel) ⟨Nat.le_of_ble_eq_true rfl, Nat.le_of_ble_eq_true rfl⟩) (preSA_of hA hR hS hK hX hLX _) rfl rfl hl.1 rfl (lv_room (Nat.le_of_ble_eq_true rfl)) dL_refused_11 ⟨nle hm hem, nle hn hen⟩) hA hR hS (fun ad13 H locs hka hLX hR hS => ?_)
  have e14 := (hka 0 0 rfl (by decide)).1
  have hl : lv_has ls 5 [(2, .long q1.1), (0, .ref (ad13 0 0)), (1, .int a2)] := by rw [e14]; exact hl
  have hKA := KA_tr hKA hka (by decide)
  have hm := nadd hm hem
  have hn := nadd hn hen
  refine lv_ldc (v := (-2000000002)) hx hb hown (hts _ q_636) dL_refused_14 ?_
  refine lv_icmp_ne (tgt := 217) hx hb dL_refused_16 (by decide) (fun c15 => ?_) (fun c15 => ?_)
  · have hf := if_of_pos hf c15
    refine lv_iconst (v := 0) hx hb dL_refused_217 (by decide) ?_
    refine lv_istore (lv' := [(4, .int 0), (2, .long q1.1), (0, .ref (ad13 0 0)), (1, .int a2)]) hx hb dL_refused_218 hl (by decide) rfl (fun ls hl => ?_)
    refine lv_iload hx hb dL_refused_220 (lv_at hl 0 rfl) ?_
    refine lv_if_eq (tgt := 365) hx hb dL_refused_222 (by decide) (fun c16 => ?_) (fun c16 => absurd (by decide) c16)
    refine lv_iconst (v := 0) hx hb dL_refused_365 (by decide) ?_
    cases hf
    exact reta_z (by decide) hC hKA hLX hR hS (nfin hm) (nfin hn) dL_refused_366
  · have hf := if_of_neg hf (fun q => q c15)
    refine lv_aload_n hx hb dL_refused_19 rfl (lv_at hl 1 rfl) ?_
    refine lv_iconst (v := 0) hx hb dL_refused_20 (by decide) ?_
    refine lv_iconst (v := 0) hx hb dL_refused_21 (by decide) ?_
    refine lv_iconst (v := (-1)) hx hb dL_refused_22 (by decide) ?_
    refine lv_iconst (v := 0) hx hb dL_refused_23 (by decide) ?_
    obtain ⟨q17, m18, n19, m20, n21, hcq17, hf, hem, hen⟩ := bt2_of hf
    refine kca_i (vx_runSW (As := [.ref (ad13 0 0), .int 0, .int 0, .int (-1), .int 0]) (rest := []) ⟨hx, hb, hml, hown, hts⟩ (mL_call l hst D dA ad13 q8.2 _ x mi 0 0 (-1) 0 q17.1 q17.2 m18 n19 hcq17) (vx_cwSW 5 hts gL_120 rfl rfl rfl (by decide +kernel) ⟨Nat.le_of_ble_eq_true rfl, Nat.le_of_ble_eq_true rfl⟩) (preSA_of hA hR hS hK hX hLX _) rfl rfl hl.1 rfl (lv_room (Nat.le_of_ble_eq_true rfl)) dL_refused_24 ⟨nle hm hem, nle hn hen⟩) hA hR hS (fun ad22 H locs hka hLX hR hS => ?_)
    have e23 := (hka 0 0 rfl (by decide)).1
    have hl : lv_has ls 5 [(2, .long q1.1), (0, .ref (ad22 0 0)), (1, .int a2)] := by rw [e23]; exact hl
    have hKA := KA_tr hKA hka (by decide)
    have hm := nadd hm hem
    have hn := nadd hn hen
    refine lv_ldc (v := (-2000000002)) hx hb hown (hts _ q_636) dL_refused_27 ?_
    refine lv_icmp_ne (tgt := 217) hx hb dL_refused_29 (by decide) (fun c24 => ?_) (fun c24 => ?_)
    · have hf := if_of_pos hf c24
      refine lv_iconst (v := 0) hx hb dL_refused_217 (by decide) ?_
      refine lv_istore (lv' := [(4, .int 0), (2, .long q1.1), (0, .ref (ad22 0 0)), (1, .int a2)]) hx hb dL_refused_218 hl (by decide) rfl (fun ls hl => ?_)
      refine lv_iload hx hb dL_refused_220 (lv_at hl 0 rfl) ?_
      refine lv_if_eq (tgt := 365) hx hb dL_refused_222 (by decide) (fun c25 => ?_) (fun c25 => absurd (by decide) c25)
      refine lv_iconst (v := 0) hx hb dL_refused_365 (by decide) ?_
      cases hf
      exact reta_z (by decide) hC hKA hLX hR hS (nfin hm) (nfin hn) dL_refused_366
    · have hf := if_of_neg hf (fun q => q c24)
      refine lv_aload_n hx hb dL_refused_32 rfl (lv_at hl 1 rfl) ?_
      refine lv_iconst (v := 1) hx hb dL_refused_33 (by decide) ?_
      refine lv_iconst (v := (-1)) hx hb dL_refused_34 (by decide) ?_
      refine lv_iconst (v := 0) hx hb dL_refused_35 (by decide) ?_
      refine lv_iconst (v := 0) hx hb dL_refused_36 (by decide) ?_
      obtain ⟨q26, m27, n28, m29, n30, hcq26, hf, hem, hen⟩ := bt2_of hf
      refine kca_i (vx_runSW (As := [.ref (ad22 0 0), .int 1, .int (-1), .int 0, .int 0]) (rest := []) ⟨hx, hb, hml, hown, hts⟩ (mL_call l hst D dA ad22 q17.2 _ x mi 1 (-1) 0 0 q26.1 q26.2 m27 n28 hcq26) (vx_cwSW 5 hts gL_120 rfl rfl rfl (by decide +kernel) ⟨Nat.le_of_ble_eq_true rfl, Nat.le_of_ble_eq_true rfl⟩) (preSA_of hA hR hS hK hX hLX _) rfl rfl hl.1 rfl (lv_room (Nat.le_of_ble_eq_true rfl)) dL_refused_37 ⟨nle hm hem, nle hn hen⟩) hA hR hS (fun ad31 H locs hka hLX hR hS => ?_)
      have e32 := (hka 0 0 rfl (by decide)).1
      have hl : lv_has ls 5 [(2, .long q1.1), (0, .ref (ad31 0 0)), (1, .int a2)] := by rw [e32]; exact hl
      have hKA := KA_tr hKA hka (by decide)
      have hm := nadd hm hem
      have hn := nadd hn hen
      refine lv_ldc (v := (-2000000002)) hx hb hown (hts _ q_636) dL_refused_40 ?_
      refine lv_icmp_ne (tgt := 217) hx hb dL_refused_42 (by decide) (fun c33 => ?_) (fun c33 => ?_)
      · have hf := if_of_pos hf c33
        refine lv_iconst (v := 0) hx hb dL_refused_217 (by decide) ?_
        refine lv_istore (lv' := [(4, .int 0), (2, .long q1.1), (0, .ref (ad31 0 0)), (1, .int a2)]) hx hb dL_refused_218 hl (by decide) rfl (fun ls hl => ?_)
        refine lv_iload hx hb dL_refused_220 (lv_at hl 0 rfl) ?_
        refine lv_if_eq (tgt := 365) hx hb dL_refused_222 (by decide) (fun c34 => ?_) (fun c34 => absurd (by decide) c34)
        refine lv_iconst (v := 0) hx hb dL_refused_365 (by decide) ?_
        cases hf
        exact reta_z (by decide) hC hKA hLX hR hS (nfin hm) (nfin hn) dL_refused_366
      · have hf := if_of_neg hf (fun q => q c33)
        refine lv_aload_n hx hb dL_refused_45 rfl (lv_at hl 1 rfl) ?_
        refine lv_iconst (v := 1) hx hb dL_refused_46 (by decide) ?_
        refine lv_iconst (v := 0) hx hb dL_refused_47 (by decide) ?_
        refine lv_iconst (v := (-1)) hx hb dL_refused_48 (by decide) ?_
        refine lv_iconst (v := 0) hx hb dL_refused_49 (by decide) ?_
        obtain ⟨q35, m36, n37, m38, n39, hcq35, hf, hem, hen⟩ := bt2_of hf
        refine kca_i (vx_runSW (As := [.ref (ad31 0 0), .int 1, .int 0, .int (-1), .int 0]) (rest := []) ⟨hx, hb, hml, hown, hts⟩ (mL_call l hst D dA ad31 q26.2 _ x mi 1 0 (-1) 0 q35.1 q35.2 m36 n37 hcq35) (vx_cwSW 5 hts gL_120 rfl rfl rfl (by decide +kernel) ⟨Nat.le_of_ble_eq_true rfl, Nat.le_of_ble_eq_true rfl⟩) (preSA_of hA hR hS hK hX hLX _) rfl rfl hl.1 rfl (lv_room (Nat.le_of_ble_eq_true rfl)) dL_refused_50 ⟨nle hm hem, nle hn hen⟩) hA hR hS (fun ad40 H locs hka hLX hR hS => ?_)
        have e41 := (hka 0 0 rfl (by decide)).1
        have hl : lv_has ls 5 [(2, .long q1.1), (0, .ref (ad40 0 0)), (1, .int a2)] := by rw [e41]; exact hl
        have hKA := KA_tr hKA hka (by decide)
        have hm := nadd hm hem
        have hn := nadd hn hen
        refine lv_ldc (v := (-2000000002)) hx hb hown (hts _ q_636) dL_refused_53 ?_
        refine lv_icmp_ne (tgt := 217) hx hb dL_refused_55 (by decide) (fun c42 => ?_) (fun c42 => ?_)
        · have hf := if_of_pos hf c42
          refine lv_iconst (v := 0) hx hb dL_refused_217 (by decide) ?_
          refine lv_istore (lv' := [(4, .int 0), (2, .long q1.1), (0, .ref (ad40 0 0)), (1, .int a2)]) hx hb dL_refused_218 hl (by decide) rfl (fun ls hl => ?_)
          refine lv_iload hx hb dL_refused_220 (lv_at hl 0 rfl) ?_
          refine lv_if_eq (tgt := 365) hx hb dL_refused_222 (by decide) (fun c43 => ?_) (fun c43 => absurd (by decide) c43)
          refine lv_iconst (v := 0) hx hb dL_refused_365 (by decide) ?_
          cases hf
          exact reta_z (by decide) hC hKA hLX hR hS (nfin hm) (nfin hn) dL_refused_366
        · have hf := if_of_neg hf (fun q => q c42)
          refine lv_aload_n hx hb dL_refused_58 rfl (lv_at hl 1 rfl) ?_
          refine lv_iconst (v := 2) hx hb dL_refused_59 (by decide) ?_
          refine lv_iconst (v := (-1)) hx hb dL_refused_60 (by decide) ?_
          refine lv_iconst (v := 5) hx hb dL_refused_61 (by decide) ?_
          refine lv_iconst (v := 0) hx hb dL_refused_62 (by decide) ?_
          obtain ⟨q44, m45, n46, m47, n48, hcq44, hf, hem, hen⟩ := bt2_of hf
          refine kca_i (vx_runSW (As := [.ref (ad40 0 0), .int 2, .int (-1), .int 5, .int 0]) (rest := []) ⟨hx, hb, hml, hown, hts⟩ (mL_call l hst D dA ad40 q35.2 _ x mi 2 (-1) 5 0 q44.1 q44.2 m45 n46 hcq44) (vx_cwSW 5 hts gL_120 rfl rfl rfl (by decide +kernel) ⟨Nat.le_of_ble_eq_true rfl, Nat.le_of_ble_eq_true rfl⟩) (preSA_of hA hR hS hK hX hLX _) rfl rfl hl.1 rfl (lv_room (Nat.le_of_ble_eq_true rfl)) dL_refused_63 ⟨nle hm hem, nle hn hen⟩) hA hR hS (fun ad49 H locs hka hLX hR hS => ?_)
          have e50 := (hka 0 0 rfl (by decide)).1
          have hl : lv_has ls 5 [(2, .long q1.1), (0, .ref (ad49 0 0)), (1, .int a2)] := by rw [e50]; exact hl
          have hKA := KA_tr hKA hka (by decide)
          have hm := nadd hm hem
          have hn := nadd hn hen
          refine lv_ldc (v := (-2000000002)) hx hb hown (hts _ q_636) dL_refused_66 ?_
          refine lv_icmp_ne (tgt := 217) hx hb dL_refused_68 (by decide) (fun c51 => ?_) (fun c51 => ?_)
          · have hf := if_of_pos hf c51
            refine lv_iconst (v := 0) hx hb dL_refused_217 (by decide) ?_
            refine lv_istore (lv' := [(4, .int 0), (2, .long q1.1), (0, .ref (ad49 0 0)), (1, .int a2)]) hx hb dL_refused_218 hl (by decide) rfl (fun ls hl => ?_)
            refine lv_iload hx hb dL_refused_220 (lv_at hl 0 rfl) ?_
            refine lv_if_eq (tgt := 365) hx hb dL_refused_222 (by decide) (fun c52 => ?_) (fun c52 => absurd (by decide) c52)
            refine lv_iconst (v := 0) hx hb dL_refused_365 (by decide) ?_
            cases hf
            exact reta_z (by decide) hC hKA hLX hR hS (nfin hm) (nfin hn) dL_refused_366
          · have hf := if_of_neg hf (fun q => q c51)
            refine lv_aload_n hx hb dL_refused_71 rfl (lv_at hl 1 rfl) ?_
            refine lv_iconst (v := 2) hx hb dL_refused_72 (by decide) ?_
            refine lv_iconst (v := 1) hx hb dL_refused_73 (by decide) ?_
            refine lv_sipush (v := 10000) hx hb dL_refused_74 (by decide) ?_
            refine lv_iconst (v := 0) hx hb dL_refused_77 (by decide) ?_
            obtain ⟨q53, m54, n55, m56, n57, hcq53, hf, hem, hen⟩ := bt2_of hf
            refine kca_i (vx_runSW (As := [.ref (ad49 0 0), .int 2, .int 1, .int 10000, .int 0]) (rest := []) ⟨hx, hb, hml, hown, hts⟩ (mL_call l hst D dA ad49 q44.2 _ x mi 2 1 10000 0 q53.1 q53.2 m54 n55 hcq53) (vx_cwSW 5 hts gL_120 rfl rfl rfl (by decide +kernel) ⟨Nat.le_of_ble_eq_true rfl, Nat.le_of_ble_eq_true rfl⟩) (preSA_of hA hR hS hK hX hLX _) rfl rfl hl.1 rfl (lv_room (Nat.le_of_ble_eq_true rfl)) dL_refused_78 ⟨nle hm hem, nle hn hen⟩) hA hR hS (fun ad58 H locs hka hLX hR hS => ?_)
            have e59 := (hka 0 0 rfl (by decide)).1
            have hl : lv_has ls 5 [(2, .long q1.1), (0, .ref (ad58 0 0)), (1, .int a2)] := by rw [e59]; exact hl
            have hKA := KA_tr hKA hka (by decide)
            have hm := nadd hm hem
            have hn := nadd hn hen
            refine lv_ldc (v := (-2000000002)) hx hb hown (hts _ q_636) dL_refused_81 ?_
            refine lv_icmp_ne (tgt := 217) hx hb dL_refused_83 (by decide) (fun c60 => ?_) (fun c60 => ?_)
            · have hf := if_of_pos hf c60
              refine lv_iconst (v := 0) hx hb dL_refused_217 (by decide) ?_
              refine lv_istore (lv' := [(4, .int 0), (2, .long q1.1), (0, .ref (ad58 0 0)), (1, .int a2)]) hx hb dL_refused_218 hl (by decide) rfl (fun ls hl => ?_)
              refine lv_iload hx hb dL_refused_220 (lv_at hl 0 rfl) ?_
              refine lv_if_eq (tgt := 365) hx hb dL_refused_222 (by decide) (fun c61 => ?_) (fun c61 => absurd (by decide) c61)
              refine lv_iconst (v := 0) hx hb dL_refused_365 (by decide) ?_
              cases hf
              exact reta_z (by decide) hC hKA hLX hR hS (nfin hm) (nfin hn) dL_refused_366
            · have hf := if_of_neg hf (fun q => q c60)
              refine lv_aload_n hx hb dL_refused_86 rfl (lv_at hl 1 rfl) ?_
              refine lv_iconst (v := 3) hx hb dL_refused_87 (by decide) ?_
              refine lv_iconst (v := (-1)) hx hb dL_refused_88 (by decide) ?_
              refine lv_iconst (v := 0) hx hb dL_refused_89 (by decide) ?_
              refine lv_iconst (v := 0) hx hb dL_refused_90 (by decide) ?_
              obtain ⟨q62, m63, n64, m65, n66, hcq62, hf, hem, hen⟩ := bt2_of hf
              refine kca_i (vx_runSW (As := [.ref (ad58 0 0), .int 3, .int (-1), .int 0, .int 0]) (rest := []) ⟨hx, hb, hml, hown, hts⟩ (mL_call l hst D dA ad58 q53.2 _ x mi 3 (-1) 0 0 q62.1 q62.2 m63 n64 hcq62) (vx_cwSW 5 hts gL_120 rfl rfl rfl (by decide +kernel) ⟨Nat.le_of_ble_eq_true rfl, Nat.le_of_ble_eq_true rfl⟩) (preSA_of hA hR hS hK hX hLX _) rfl rfl hl.1 rfl (lv_room (Nat.le_of_ble_eq_true rfl)) dL_refused_91 ⟨nle hm hem, nle hn hen⟩) hA hR hS (fun ad67 H locs hka hLX hR hS => ?_)
              have e68 := (hka 0 0 rfl (by decide)).1
              have hl : lv_has ls 5 [(2, .long q1.1), (0, .ref (ad67 0 0)), (1, .int a2)] := by rw [e68]; exact hl
              have hKA := KA_tr hKA hka (by decide)
              have hm := nadd hm hem
              have hn := nadd hn hen
              refine lv_ldc (v := (-2000000002)) hx hb hown (hts _ q_636) dL_refused_94 ?_
              refine lv_icmp_ne (tgt := 217) hx hb dL_refused_96 (by decide) (fun c69 => ?_) (fun c69 => ?_)
              · have hf := if_of_pos hf c69
                refine lv_iconst (v := 0) hx hb dL_refused_217 (by decide) ?_
                refine lv_istore (lv' := [(4, .int 0), (2, .long q1.1), (0, .ref (ad67 0 0)), (1, .int a2)]) hx hb dL_refused_218 hl (by decide) rfl (fun ls hl => ?_)
                refine lv_iload hx hb dL_refused_220 (lv_at hl 0 rfl) ?_
                refine lv_if_eq (tgt := 365) hx hb dL_refused_222 (by decide) (fun c70 => ?_) (fun c70 => absurd (by decide) c70)
                refine lv_iconst (v := 0) hx hb dL_refused_365 (by decide) ?_
                cases hf
                exact reta_z (by decide) hC hKA hLX hR hS (nfin hm) (nfin hn) dL_refused_366
              · have hf := if_of_neg hf (fun q => q c69)
                refine lv_aload_n hx hb dL_refused_99 rfl (lv_at hl 1 rfl) ?_
                refine lv_iconst (v := 3) hx hb dL_refused_100 (by decide) ?_
                refine lv_iconst (v := 0) hx hb dL_refused_101 (by decide) ?_
                refine lv_ldc (v := 100001) hx hb hown (hts _ q_773) dL_refused_102 ?_
                refine lv_iconst (v := 0) hx hb dL_refused_104 (by decide) ?_
                obtain ⟨q71, m72, n73, m74, n75, hcq71, hf, hem, hen⟩ := bt2_of hf
                refine kca_i (vx_runSW (As := [.ref (ad67 0 0), .int 3, .int 0, .int 100001, .int 0]) (rest := []) ⟨hx, hb, hml, hown, hts⟩ (mL_call l hst D dA ad67 q62.2 _ x mi 3 0 100001 0 q71.1 q71.2 m72 n73 hcq71) (vx_cwSW 5 hts gL_120 rfl rfl rfl (by decide +kernel) ⟨Nat.le_of_ble_eq_true rfl, Nat.le_of_ble_eq_true rfl⟩) (preSA_of hA hR hS hK hX hLX _) rfl rfl hl.1 rfl (lv_room (Nat.le_of_ble_eq_true rfl)) dL_refused_105 ⟨nle hm hem, nle hn hen⟩) hA hR hS (fun ad76 H locs hka hLX hR hS => ?_)
                have e77 := (hka 0 0 rfl (by decide)).1
                have hl : lv_has ls 5 [(2, .long q1.1), (0, .ref (ad76 0 0)), (1, .int a2)] := by rw [e77]; exact hl
                have hKA := KA_tr hKA hka (by decide)
                have hm := nadd hm hem
                have hn := nadd hn hen
                refine lv_ldc (v := (-2000000002)) hx hb hown (hts _ q_636) dL_refused_108 ?_
                refine lv_icmp_ne (tgt := 217) hx hb dL_refused_110 (by decide) (fun c78 => ?_) (fun c78 => ?_)
                · have hf := if_of_pos hf c78
                  refine lv_iconst (v := 0) hx hb dL_refused_217 (by decide) ?_
                  refine lv_istore (lv' := [(4, .int 0), (2, .long q1.1), (0, .ref (ad76 0 0)), (1, .int a2)]) hx hb dL_refused_218 hl (by decide) rfl (fun ls hl => ?_)
                  refine lv_iload hx hb dL_refused_220 (lv_at hl 0 rfl) ?_
                  refine lv_if_eq (tgt := 365) hx hb dL_refused_222 (by decide) (fun c79 => ?_) (fun c79 => absurd (by decide) c79)
                  refine lv_iconst (v := 0) hx hb dL_refused_365 (by decide) ?_
                  cases hf
                  exact reta_z (by decide) hC hKA hLX hR hS (nfin hm) (nfin hn) dL_refused_366
                · have hf := if_of_neg hf (fun q => q c78)
                  refine lv_aload_n hx hb dL_refused_113 rfl (lv_at hl 1 rfl) ?_
                  refine lv_iconst (v := 4) hx hb dL_refused_114 (by decide) ?_
                  refine lv_iconst (v := (-1)) hx hb dL_refused_115 (by decide) ?_
                  refine lv_iconst (v := 0) hx hb dL_refused_116 (by decide) ?_
                  refine lv_iconst (v := 0) hx hb dL_refused_117 (by decide) ?_
                  obtain ⟨q80, m81, n82, m83, n84, hcq80, hf, hem, hen⟩ := bt2_of hf
                  refine kca_i (vx_runSW (As := [.ref (ad76 0 0), .int 4, .int (-1), .int 0, .int 0]) (rest := []) ⟨hx, hb, hml, hown, hts⟩ (mL_call l hst D dA ad76 q71.2 _ x mi 4 (-1) 0 0 q80.1 q80.2 m81 n82 hcq80) (vx_cwSW 5 hts gL_120 rfl rfl rfl (by decide +kernel) ⟨Nat.le_of_ble_eq_true rfl, Nat.le_of_ble_eq_true rfl⟩) (preSA_of hA hR hS hK hX hLX _) rfl rfl hl.1 rfl (lv_room (Nat.le_of_ble_eq_true rfl)) dL_refused_118 ⟨nle hm hem, nle hn hen⟩) hA hR hS (fun ad85 H locs hka hLX hR hS => ?_)
                  have e86 := (hka 0 0 rfl (by decide)).1
                  have hl : lv_has ls 5 [(2, .long q1.1), (0, .ref (ad85 0 0)), (1, .int a2)] := by rw [e86]; exact hl
                  have hKA := KA_tr hKA hka (by decide)
                  have hm := nadd hm hem
                  have hn := nadd hn hen
                  refine lv_ldc (v := (-2000000002)) hx hb hown (hts _ q_636) dL_refused_121 ?_
                  refine lv_icmp_ne (tgt := 217) hx hb dL_refused_123 (by decide) (fun c87 => ?_) (fun c87 => ?_)
                  · have hf := if_of_pos hf c87
                    refine lv_iconst (v := 0) hx hb dL_refused_217 (by decide) ?_
                    refine lv_istore (lv' := [(4, .int 0), (2, .long q1.1), (0, .ref (ad85 0 0)), (1, .int a2)]) hx hb dL_refused_218 hl (by decide) rfl (fun ls hl => ?_)
                    refine lv_iload hx hb dL_refused_220 (lv_at hl 0 rfl) ?_
                    refine lv_if_eq (tgt := 365) hx hb dL_refused_222 (by decide) (fun c88 => ?_) (fun c88 => absurd (by decide) c88)
                    refine lv_iconst (v := 0) hx hb dL_refused_365 (by decide) ?_
                    cases hf
                    exact reta_z (by decide) hC hKA hLX hR hS (nfin hm) (nfin hn) dL_refused_366
                  · have hf := if_of_neg hf (fun q => q c87)
                    refine lv_aload_n hx hb dL_refused_126 rfl (lv_at hl 1 rfl) ?_
                    refine lv_iconst (v := 4) hx hb dL_refused_127 (by decide) ?_
                    refine lv_iconst (v := 0) hx hb dL_refused_128 (by decide) ?_
                    refine lv_iconst (v := (-1)) hx hb dL_refused_129 (by decide) ?_
                    refine lv_iconst (v := 0) hx hb dL_refused_130 (by decide) ?_
                    obtain ⟨q89, m90, n91, m92, n93, hcq89, hf, hem, hen⟩ := bt2_of hf
                    refine kca_i (vx_runSW (As := [.ref (ad85 0 0), .int 4, .int 0, .int (-1), .int 0]) (rest := []) ⟨hx, hb, hml, hown, hts⟩ (mL_call l hst D dA ad85 q80.2 _ x mi 4 0 (-1) 0 q89.1 q89.2 m90 n91 hcq89) (vx_cwSW 5 hts gL_120 rfl rfl rfl (by decide +kernel) ⟨Nat.le_of_ble_eq_true rfl, Nat.le_of_ble_eq_true rfl⟩) (preSA_of hA hR hS hK hX hLX _) rfl rfl hl.1 rfl (lv_room (Nat.le_of_ble_eq_true rfl)) dL_refused_131 ⟨nle hm hem, nle hn hen⟩) hA hR hS (fun ad94 H locs hka hLX hR hS => ?_)
                    have e95 := (hka 0 0 rfl (by decide)).1
                    have hl : lv_has ls 5 [(2, .long q1.1), (0, .ref (ad94 0 0)), (1, .int a2)] := by rw [e95]; exact hl
                    have hKA := KA_tr hKA hka (by decide)
                    have hm := nadd hm hem
                    have hn := nadd hn hen
                    refine lv_ldc (v := (-2000000002)) hx hb hown (hts _ q_636) dL_refused_134 ?_
                    refine lv_icmp_ne (tgt := 217) hx hb dL_refused_136 (by decide) (fun c96 => ?_) (fun c96 => ?_)
                    · have hf := if_of_pos hf c96
                      refine lv_iconst (v := 0) hx hb dL_refused_217 (by decide) ?_
                      refine lv_istore (lv' := [(4, .int 0), (2, .long q1.1), (0, .ref (ad94 0 0)), (1, .int a2)]) hx hb dL_refused_218 hl (by decide) rfl (fun ls hl => ?_)
                      refine lv_iload hx hb dL_refused_220 (lv_at hl 0 rfl) ?_
                      refine lv_if_eq (tgt := 365) hx hb dL_refused_222 (by decide) (fun c97 => ?_) (fun c97 => absurd (by decide) c97)
                      refine lv_iconst (v := 0) hx hb dL_refused_365 (by decide) ?_
                      cases hf
                      exact reta_z (by decide) hC hKA hLX hR hS (nfin hm) (nfin hn) dL_refused_366
                    · have hf := if_of_neg hf (fun q => q c96)
                      refine lv_aload_n hx hb dL_refused_139 rfl (lv_at hl 1 rfl) ?_
                      refine lv_iconst (v := 5) hx hb dL_refused_140 (by decide) ?_
                      refine lv_iconst (v := 5) hx hb dL_refused_141 (by decide) ?_
                      refine lv_iconst (v := 1) hx hb dL_refused_142 (by decide) ?_
                      refine lv_iconst (v := 0) hx hb dL_refused_143 (by decide) ?_
                      obtain ⟨q98, m99, n100, m101, n102, hcq98, hf, hem, hen⟩ := bt2_of hf
                      refine kca_i (vx_runSW (As := [.ref (ad94 0 0), .int 5, .int 5, .int 1, .int 0]) (rest := []) ⟨hx, hb, hml, hown, hts⟩ (mL_call l hst D dA ad94 q89.2 _ x mi 5 5 1 0 q98.1 q98.2 m99 n100 hcq98) (vx_cwSW 5 hts gL_120 rfl rfl rfl (by decide +kernel) ⟨Nat.le_of_ble_eq_true rfl, Nat.le_of_ble_eq_true rfl⟩) (preSA_of hA hR hS hK hX hLX _) rfl rfl hl.1 rfl (lv_room (Nat.le_of_ble_eq_true rfl)) dL_refused_144 ⟨nle hm hem, nle hn hen⟩) hA hR hS (fun ad103 H locs hka hLX hR hS => ?_)
                      have e104 := (hka 0 0 rfl (by decide)).1
                      have hl : lv_has ls 5 [(2, .long q1.1), (0, .ref (ad103 0 0)), (1, .int a2)] := by rw [e104]; exact hl
                      have hKA := KA_tr hKA hka (by decide)
                      have hm := nadd hm hem
                      have hn := nadd hn hen
                      refine lv_ldc (v := (-2000000002)) hx hb hown (hts _ q_636) dL_refused_147 ?_
                      refine lv_icmp_ne (tgt := 217) hx hb dL_refused_149 (by decide) (fun c105 => ?_) (fun c105 => ?_)
                      · have hf := if_of_pos hf c105
                        refine lv_iconst (v := 0) hx hb dL_refused_217 (by decide) ?_
                        refine lv_istore (lv' := [(4, .int 0), (2, .long q1.1), (0, .ref (ad103 0 0)), (1, .int a2)]) hx hb dL_refused_218 hl (by decide) rfl (fun ls hl => ?_)
                        refine lv_iload hx hb dL_refused_220 (lv_at hl 0 rfl) ?_
                        refine lv_if_eq (tgt := 365) hx hb dL_refused_222 (by decide) (fun c106 => ?_) (fun c106 => absurd (by decide) c106)
                        refine lv_iconst (v := 0) hx hb dL_refused_365 (by decide) ?_
                        cases hf
                        exact reta_z (by decide) hC hKA hLX hR hS (nfin hm) (nfin hn) dL_refused_366
                      · have hf := if_of_neg hf (fun q => q c105)
                        refine lv_aload_n hx hb dL_refused_152 rfl (lv_at hl 1 rfl) ?_
                        refine lv_iconst (v := 5) hx hb dL_refused_153 (by decide) ?_
                        refine lv_iconst (v := 0) hx hb dL_refused_154 (by decide) ?_
                        refine lv_iconst (v := (-1)) hx hb dL_refused_155 (by decide) ?_
                        refine lv_iconst (v := 0) hx hb dL_refused_156 (by decide) ?_
                        obtain ⟨q107, m108, n109, m110, n111, hcq107, hf, hem, hen⟩ := bt2_of hf
                        refine kca_i (vx_runSW (As := [.ref (ad103 0 0), .int 5, .int 0, .int (-1), .int 0]) (rest := []) ⟨hx, hb, hml, hown, hts⟩ (mL_call l hst D dA ad103 q98.2 _ x mi 5 0 (-1) 0 q107.1 q107.2 m108 n109 hcq107) (vx_cwSW 5 hts gL_120 rfl rfl rfl (by decide +kernel) ⟨Nat.le_of_ble_eq_true rfl, Nat.le_of_ble_eq_true rfl⟩) (preSA_of hA hR hS hK hX hLX _) rfl rfl hl.1 rfl (lv_room (Nat.le_of_ble_eq_true rfl)) dL_refused_157 ⟨nle hm hem, nle hn hen⟩) hA hR hS (fun ad112 H locs hka hLX hR hS => ?_)
                        have e113 := (hka 0 0 rfl (by decide)).1
                        have hl : lv_has ls 5 [(2, .long q1.1), (0, .ref (ad112 0 0)), (1, .int a2)] := by rw [e113]; exact hl
                        have hKA := KA_tr hKA hka (by decide)
                        have hm := nadd hm hem
                        have hn := nadd hn hen
                        refine lv_ldc (v := (-2000000002)) hx hb hown (hts _ q_636) dL_refused_160 ?_
                        refine lv_icmp_ne (tgt := 217) hx hb dL_refused_162 (by decide) (fun c114 => ?_) (fun c114 => ?_)
                        · have hf := if_of_pos hf c114
                          refine lv_iconst (v := 0) hx hb dL_refused_217 (by decide) ?_
                          refine lv_istore (lv' := [(4, .int 0), (2, .long q1.1), (0, .ref (ad112 0 0)), (1, .int a2)]) hx hb dL_refused_218 hl (by decide) rfl (fun ls hl => ?_)
                          refine lv_iload hx hb dL_refused_220 (lv_at hl 0 rfl) ?_
                          refine lv_if_eq (tgt := 365) hx hb dL_refused_222 (by decide) (fun c115 => ?_) (fun c115 => absurd (by decide) c115)
                          refine lv_iconst (v := 0) hx hb dL_refused_365 (by decide) ?_
                          cases hf
                          exact reta_z (by decide) hC hKA hLX hR hS (nfin hm) (nfin hn) dL_refused_366
                        · have hf := if_of_neg hf (fun q => q c114)
                          refine lv_aload_n hx hb dL_refused_165 rfl (lv_at hl 1 rfl) ?_
                          refine lv_bipush (v := 6) hx hb dL_refused_166 (by decide) ?_
                          refine lv_iconst (v := (-1)) hx hb dL_refused_168 (by decide) ?_
                          refine lv_iconst (v := 0) hx hb dL_refused_169 (by decide) ?_
                          refine lv_sipush (v := 12802) hx hb dL_refused_170 (by decide) ?_
                          obtain ⟨q116, m117, n118, m119, n120, hcq116, hf, hem, hen⟩ := bt2_of hf
                          refine kca_i (vx_runSW (As := [.ref (ad112 0 0), .int 6, .int (-1), .int 0, .int 12802]) (rest := []) ⟨hx, hb, hml, hown, hts⟩ (mL_call l hst D dA ad112 q107.2 _ x mi 6 (-1) 0 12802 q116.1 q116.2 m117 n118 hcq116) (vx_cwSW 5 hts gL_120 rfl rfl rfl (by decide +kernel) ⟨Nat.le_of_ble_eq_true rfl, Nat.le_of_ble_eq_true rfl⟩) (preSA_of hA hR hS hK hX hLX _) rfl rfl hl.1 rfl (lv_room (Nat.le_of_ble_eq_true rfl)) dL_refused_173 ⟨nle hm hem, nle hn hen⟩) hA hR hS (fun ad121 H locs hka hLX hR hS => ?_)
                          have e122 := (hka 0 0 rfl (by decide)).1
                          have hl : lv_has ls 5 [(2, .long q1.1), (0, .ref (ad121 0 0)), (1, .int a2)] := by rw [e122]; exact hl
                          have hKA := KA_tr hKA hka (by decide)
                          have hm := nadd hm hem
                          have hn := nadd hn hen
                          refine lv_ldc (v := (-2000000002)) hx hb hown (hts _ q_636) dL_refused_176 ?_
                          refine lv_icmp_ne (tgt := 217) hx hb dL_refused_178 (by decide) (fun c123 => ?_) (fun c123 => ?_)
                          · have hf := if_of_pos hf c123
                            refine lv_iconst (v := 0) hx hb dL_refused_217 (by decide) ?_
                            refine lv_istore (lv' := [(4, .int 0), (2, .long q1.1), (0, .ref (ad121 0 0)), (1, .int a2)]) hx hb dL_refused_218 hl (by decide) rfl (fun ls hl => ?_)
                            refine lv_iload hx hb dL_refused_220 (lv_at hl 0 rfl) ?_
                            refine lv_if_eq (tgt := 365) hx hb dL_refused_222 (by decide) (fun c124 => ?_) (fun c124 => absurd (by decide) c124)
                            refine lv_iconst (v := 0) hx hb dL_refused_365 (by decide) ?_
                            cases hf
                            exact reta_z (by decide) hC hKA hLX hR hS (nfin hm) (nfin hn) dL_refused_366
                          · have hf := if_of_neg hf (fun q => q c123)
                            refine lv_aload_n hx hb dL_refused_181 rfl (lv_at hl 1 rfl) ?_
                            refine lv_bipush (v := 6) hx hb dL_refused_182 (by decide) ?_
                            refine lv_iconst (v := 0) hx hb dL_refused_184 (by decide) ?_
                            refine lv_iconst (v := (-1)) hx hb dL_refused_185 (by decide) ?_
                            refine lv_sipush (v := 12802) hx hb dL_refused_186 (by decide) ?_
                            obtain ⟨q125, m126, n127, m128, n129, hcq125, hf, hem, hen⟩ := bt2_of hf
                            refine kca_i (vx_runSW (As := [.ref (ad121 0 0), .int 6, .int 0, .int (-1), .int 12802]) (rest := []) ⟨hx, hb, hml, hown, hts⟩ (mL_call l hst D dA ad121 q116.2 _ x mi 6 0 (-1) 12802 q125.1 q125.2 m126 n127 hcq125) (vx_cwSW 5 hts gL_120 rfl rfl rfl (by decide +kernel) ⟨Nat.le_of_ble_eq_true rfl, Nat.le_of_ble_eq_true rfl⟩) (preSA_of hA hR hS hK hX hLX _) rfl rfl hl.1 rfl (lv_room (Nat.le_of_ble_eq_true rfl)) dL_refused_189 ⟨nle hm hem, nle hn hen⟩) hA hR hS (fun ad130 H locs hka hLX hR hS => ?_)
                            have e131 := (hka 0 0 rfl (by decide)).1
                            have hl : lv_has ls 5 [(2, .long q1.1), (0, .ref (ad130 0 0)), (1, .int a2)] := by rw [e131]; exact hl
                            have hKA := KA_tr hKA hka (by decide)
                            have hm := nadd hm hem
                            have hn := nadd hn hen
                            refine lv_ldc (v := (-2000000002)) hx hb hown (hts _ q_636) dL_refused_192 ?_
                            refine lv_icmp_ne (tgt := 217) hx hb dL_refused_194 (by decide) (fun c132 => ?_) (fun c132 => ?_)
                            · have hf := if_of_pos hf c132
                              refine lv_iconst (v := 0) hx hb dL_refused_217 (by decide) ?_
                              refine lv_istore (lv' := [(4, .int 0), (2, .long q1.1), (0, .ref (ad130 0 0)), (1, .int a2)]) hx hb dL_refused_218 hl (by decide) rfl (fun ls hl => ?_)
                              refine lv_iload hx hb dL_refused_220 (lv_at hl 0 rfl) ?_
                              refine lv_if_eq (tgt := 365) hx hb dL_refused_222 (by decide) (fun c133 => ?_) (fun c133 => absurd (by decide) c133)
                              refine lv_iconst (v := 0) hx hb dL_refused_365 (by decide) ?_
                              cases hf
                              exact reta_z (by decide) hC hKA hLX hR hS (nfin hm) (nfin hn) dL_refused_366
                            · have hf := if_of_neg hf (fun q => q c132)
                              refine lv_aload_n hx hb dL_refused_197 rfl (lv_at hl 1 rfl) ?_
                              refine lv_bipush (v := 6) hx hb dL_refused_198 (by decide) ?_
                              refine lv_iconst (v := 0) hx hb dL_refused_200 (by decide) ?_
                              refine lv_iconst (v := 0) hx hb dL_refused_201 (by decide) ?_
                              refine lv_sipush (v := 12902) hx hb dL_refused_202 (by decide) ?_
                              obtain ⟨q134, m135, n136, m137, n138, hcq134, hf, hem, hen⟩ := bt2_of hf
                              refine kca_i (vx_runSW (As := [.ref (ad130 0 0), .int 6, .int 0, .int 0, .int 12902]) (rest := []) ⟨hx, hb, hml, hown, hts⟩ (mL_call l hst D dA ad130 q125.2 _ x mi 6 0 0 12902 q134.1 q134.2 m135 n136 hcq134) (vx_cwSW 5 hts gL_120 rfl rfl rfl (by decide +kernel) ⟨Nat.le_of_ble_eq_true rfl, Nat.le_of_ble_eq_true rfl⟩) (preSA_of hA hR hS hK hX hLX _) rfl rfl hl.1 rfl (lv_room (Nat.le_of_ble_eq_true rfl)) dL_refused_205 ⟨nle hm hem, nle hn hen⟩) hA hR hS (fun ad139 H locs hka hLX hR hS => ?_)
                              have e140 := (hka 0 0 rfl (by decide)).1
                              have hl : lv_has ls 5 [(2, .long q1.1), (0, .ref (ad139 0 0)), (1, .int a2)] := by rw [e140]; exact hl
                              have hKA := KA_tr hKA hka (by decide)
                              have hm := nadd hm hem
                              have hn := nadd hn hen
                              refine lv_ldc (v := (-2000000002)) hx hb hown (hts _ q_636) dL_refused_208 ?_
                              refine lv_icmp_ne (tgt := 217) hx hb dL_refused_210 (by decide) (fun c141 => ?_) (fun c141 => ?_)
                              · have hf := if_of_pos hf c141
                                refine lv_iconst (v := 0) hx hb dL_refused_217 (by decide) ?_
                                refine lv_istore (lv' := [(4, .int 0), (2, .long q1.1), (0, .ref (ad139 0 0)), (1, .int a2)]) hx hb dL_refused_218 hl (by decide) rfl (fun ls hl => ?_)
                                refine lv_iload hx hb dL_refused_220 (lv_at hl 0 rfl) ?_
                                refine lv_if_eq (tgt := 365) hx hb dL_refused_222 (by decide) (fun c142 => ?_) (fun c142 => absurd (by decide) c142)
                                refine lv_iconst (v := 0) hx hb dL_refused_365 (by decide) ?_
                                cases hf
                                exact reta_z (by decide) hC hKA hLX hR hS (nfin hm) (nfin hn) dL_refused_366
                              · have hf := if_of_neg hf (fun q => q c141)
                                refine lv_iconst (v := 1) hx hb dL_refused_213 (by decide) ?_
                                refine lv_goto (tgt := 218) hx hb dL_refused_214 (by decide) ?_
                                refine lv_istore (lv' := [(4, .int 1), (2, .long q1.1), (0, .ref (ad139 0 0)), (1, .int a2)]) hx hb dL_refused_218 hl (by decide) rfl (fun ls hl => ?_)
                                refine lv_iload hx hb dL_refused_220 (lv_at hl 0 rfl) ?_
                                refine lv_if_eq (tgt := 365) hx hb dL_refused_222 (by decide) (fun c143 => absurd c143 (by decide)) (fun c143 => ?_)
                                refine lv_aload_n hx hb dL_refused_225 rfl (lv_at hl 2 rfl) ?_
                                refine lv_bipush (v := 7) hx hb dL_refused_226 (by decide) ?_
                                refine lv_iload_n hx hb dL_refused_228 rfl (lv_at hl 3 rfl) ?_
                                refine lv_iconst (v := 0) hx hb dL_refused_229 (by decide) ?_
                                refine lv_iconst (v := 0) hx hb dL_refused_230 (by decide) ?_
                                obtain ⟨q144, m145, n146, m147, n148, hcq144, hf, hem, hen⟩ := bt2_of hf
                                refine kca_i (vx_runSW (As := [.ref (ad139 0 0), .int 7, .int a2, .int 0, .int 0]) (rest := []) ⟨hx, hb, hml, hown, hts⟩ (mL_call l hst D dA ad139 q134.2 _ x mi 7 a2 0 0 q144.1 q144.2 m145 n146 hcq144) (vx_cwSW 5 hts gL_120 rfl rfl rfl (by decide +kernel) ⟨Nat.le_of_ble_eq_true rfl, Nat.le_of_ble_eq_true rfl⟩) (preSA_of hA hR hS hK hX hLX _) rfl rfl hl.1 rfl (lv_room (Nat.le_of_ble_eq_true rfl)) dL_refused_231 ⟨nle hm hem, nle hn hen⟩) hA hR hS (fun ad149 H locs hka hLX hR hS => ?_)
                                have e150 := (hka 0 0 rfl (by decide)).1
                                have hl : lv_has ls 5 [(4, .int 1), (2, .long q1.1), (0, .ref (ad149 0 0)), (1, .int a2)] := by rw [e150]; exact hl
                                have hKA := KA_tr hKA hka (by decide)
                                have hm := nadd hm hem
                                have hn := nadd hn hen
                                refine lv_ldc (v := (-2000000001)) hx hb hown (hts _ q_635) dL_refused_234 ?_
                                refine lv_icmp_ne (tgt := 365) hx hb dL_refused_236 (by decide) (fun c151 => ?_) (fun c151 => ?_)
                                · have hf := if_of_pos hf c151
                                  refine lv_iconst (v := 0) hx hb dL_refused_365 (by decide) ?_
                                  cases hf
                                  exact reta_z (by decide) hC hKA hLX hR hS (nfin hm) (nfin hn) dL_refused_366
                                · have hf := if_of_neg hf (fun q => q c151)
                                  refine lv_aload_n hx hb dL_refused_239 rfl (lv_at hl 2 rfl) ?_
                                  refine lv_bipush (v := 7) hx hb dL_refused_240 (by decide) ?_
                                  refine lv_iconst (v := (-1)) hx hb dL_refused_242 (by decide) ?_
                                  refine lv_iconst (v := 0) hx hb dL_refused_243 (by decide) ?_
                                  refine lv_iconst (v := 0) hx hb dL_refused_244 (by decide) ?_
                                  obtain ⟨q152, m153, n154, m155, n156, hcq152, hf, hem, hen⟩ := bt2_of hf
                                  refine kca_i (vx_runSW (As := [.ref (ad149 0 0), .int 7, .int (-1), .int 0, .int 0]) (rest := []) ⟨hx, hb, hml, hown, hts⟩ (mL_call l hst D dA ad149 q144.2 _ x mi 7 (-1) 0 0 q152.1 q152.2 m153 n154 hcq152) (vx_cwSW 5 hts gL_120 rfl rfl rfl (by decide +kernel) ⟨Nat.le_of_ble_eq_true rfl, Nat.le_of_ble_eq_true rfl⟩) (preSA_of hA hR hS hK hX hLX _) rfl rfl hl.1 rfl (lv_room (Nat.le_of_ble_eq_true rfl)) dL_refused_245 ⟨nle hm hem, nle hn hen⟩) hA hR hS (fun ad157 H locs hka hLX hR hS => ?_)
                                  have e158 := (hka 0 0 rfl (by decide)).1
                                  have hl : lv_has ls 5 [(4, .int 1), (2, .long q1.1), (0, .ref (ad157 0 0)), (1, .int a2)] := by rw [e158]; exact hl
                                  have hKA := KA_tr hKA hka (by decide)
                                  have hm := nadd hm hem
                                  have hn := nadd hn hen
                                  refine lv_ldc (v := (-2000000001)) hx hb hown (hts _ q_635) dL_refused_248 ?_
                                  refine lv_icmp_ne (tgt := 365) hx hb dL_refused_250 (by decide) (fun c159 => ?_) (fun c159 => ?_)
                                  · have hf := if_of_pos hf c159
                                    refine lv_iconst (v := 0) hx hb dL_refused_365 (by decide) ?_
                                    cases hf
                                    exact reta_z (by decide) hC hKA hLX hR hS (nfin hm) (nfin hn) dL_refused_366
                                  · have hf := if_of_neg hf (fun q => q c159)
                                    refine lv_aload_n hx hb dL_refused_253 rfl (lv_at hl 2 rfl) ?_
                                    refine lv_bipush (v := 8) hx hb dL_refused_254 (by decide) ?_
                                    refine lv_iconst (v := (-1)) hx hb dL_refused_256 (by decide) ?_
                                    refine lv_iconst (v := 1) hx hb dL_refused_257 (by decide) ?_
                                    refine lv_iconst (v := 0) hx hb dL_refused_258 (by decide) ?_
                                    obtain ⟨q160, m161, n162, m163, n164, hcq160, hf, hem, hen⟩ := bt2_of hf
                                    refine kca_i (vx_runSW (As := [.ref (ad157 0 0), .int 8, .int (-1), .int 1, .int 0]) (rest := []) ⟨hx, hb, hml, hown, hts⟩ (mL_call l hst D dA ad157 q152.2 _ x mi 8 (-1) 1 0 q160.1 q160.2 m161 n162 hcq160) (vx_cwSW 5 hts gL_120 rfl rfl rfl (by decide +kernel) ⟨Nat.le_of_ble_eq_true rfl, Nat.le_of_ble_eq_true rfl⟩) (preSA_of hA hR hS hK hX hLX _) rfl rfl hl.1 rfl (lv_room (Nat.le_of_ble_eq_true rfl)) dL_refused_259 ⟨nle hm hem, nle hn hen⟩) hA hR hS (fun ad165 H locs hka hLX hR hS => ?_)
                                    have e166 := (hka 0 0 rfl (by decide)).1
                                    have hl : lv_has ls 5 [(4, .int 1), (2, .long q1.1), (0, .ref (ad165 0 0)), (1, .int a2)] := by rw [e166]; exact hl
                                    have hKA := KA_tr hKA hka (by decide)
                                    have hm := nadd hm hem
                                    have hn := nadd hn hen
                                    refine lv_ldc (v := (-2000000002)) hx hb hown (hts _ q_636) dL_refused_262 ?_
                                    refine lv_icmp_ne (tgt := 365) hx hb dL_refused_264 (by decide) (fun c167 => ?_) (fun c167 => ?_)
                                    · have hf := if_of_pos hf c167
                                      refine lv_iconst (v := 0) hx hb dL_refused_365 (by decide) ?_
                                      cases hf
                                      exact reta_z (by decide) hC hKA hLX hR hS (nfin hm) (nfin hn) dL_refused_366
                                    · have hf := if_of_neg hf (fun q => q c167)
                                      refine lv_aload_n hx hb dL_refused_267 rfl (lv_at hl 2 rfl) ?_
                                      refine lv_bipush (v := 9) hx hb dL_refused_268 (by decide) ?_
                                      refine lv_iload_n hx hb dL_refused_270 rfl (lv_at hl 3 rfl) ?_
                                      refine lv_iconst (v := 0) hx hb dL_refused_271 (by decide) ?_
                                      refine lv_iconst (v := 0) hx hb dL_refused_272 (by decide) ?_
                                      obtain ⟨q168, m169, n170, m171, n172, hcq168, hf, hem, hen⟩ := bt2_of hf
                                      refine kca_i (vx_runSW (As := [.ref (ad165 0 0), .int 9, .int a2, .int 0, .int 0]) (rest := []) ⟨hx, hb, hml, hown, hts⟩ (mL_call l hst D dA ad165 q160.2 _ x mi 9 a2 0 0 q168.1 q168.2 m169 n170 hcq168) (vx_cwSW 5 hts gL_120 rfl rfl rfl (by decide +kernel) ⟨Nat.le_of_ble_eq_true rfl, Nat.le_of_ble_eq_true rfl⟩) (preSA_of hA hR hS hK hX hLX _) rfl rfl hl.1 rfl (lv_room (Nat.le_of_ble_eq_true rfl)) dL_refused_273 ⟨nle hm hem, nle hn hen⟩) hA hR hS (fun ad173 H locs hka hLX hR hS => ?_)
                                      have e174 := (hka 0 0 rfl (by decide)).1
                                      have hl : lv_has ls 5 [(4, .int 1), (2, .long q1.1), (0, .ref (ad173 0 0)), (1, .int a2)] := by rw [e174]; exact hl
                                      have hKA := KA_tr hKA hka (by decide)
                                      have hm := nadd hm hem
                                      have hn := nadd hn hen
                                      refine lv_ldc (v := (-2000000001)) hx hb hown (hts _ q_635) dL_refused_276 ?_
                                      refine lv_icmp_ne (tgt := 365) hx hb dL_refused_278 (by decide) (fun c175 => ?_) (fun c175 => ?_)
                                      · have hf := if_of_pos hf c175
                                        refine lv_iconst (v := 0) hx hb dL_refused_365 (by decide) ?_
                                        cases hf
                                        exact reta_z (by decide) hC hKA hLX hR hS (nfin hm) (nfin hn) dL_refused_366
                                      · have hf := if_of_neg hf (fun q => q c175)
                                        refine lv_aload_n hx hb dL_refused_281 rfl (lv_at hl 2 rfl) ?_
                                        refine lv_bipush (v := 10) hx hb dL_refused_282 (by decide) ?_
                                        refine lv_iconst (v := 3) hx hb dL_refused_284 (by decide) ?_
                                        refine lv_iconst (v := 0) hx hb dL_refused_285 (by decide) ?_
                                        refine lv_iconst (v := 0) hx hb dL_refused_286 (by decide) ?_
                                        obtain ⟨q176, m177, n178, m179, n180, hcq176, hf, hem, hen⟩ := bt2_of hf
                                        refine kca_i (vx_runSW (As := [.ref (ad173 0 0), .int 10, .int 3, .int 0, .int 0]) (rest := []) ⟨hx, hb, hml, hown, hts⟩ (mL_call l hst D dA ad173 q168.2 _ x mi 10 3 0 0 q176.1 q176.2 m177 n178 hcq176) (vx_cwSW 5 hts gL_120 rfl rfl rfl (by decide +kernel) ⟨Nat.le_of_ble_eq_true rfl, Nat.le_of_ble_eq_true rfl⟩) (preSA_of hA hR hS hK hX hLX _) rfl rfl hl.1 rfl (lv_room (Nat.le_of_ble_eq_true rfl)) dL_refused_287 ⟨nle hm hem, nle hn hen⟩) hA hR hS (fun ad181 H locs hka hLX hR hS => ?_)
                                        have e182 := (hka 0 0 rfl (by decide)).1
                                        have hl : lv_has ls 5 [(4, .int 1), (2, .long q1.1), (0, .ref (ad181 0 0)), (1, .int a2)] := by rw [e182]; exact hl
                                        have hKA := KA_tr hKA hka (by decide)
                                        have hm := nadd hm hem
                                        have hn := nadd hn hen
                                        refine lv_ldc (v := (-2000000002)) hx hb hown (hts _ q_636) dL_refused_290 ?_
                                        refine lv_icmp_ne (tgt := 365) hx hb dL_refused_292 (by decide) (fun c183 => ?_) (fun c183 => ?_)
                                        · have hf := if_of_pos hf c183
                                          refine lv_iconst (v := 0) hx hb dL_refused_365 (by decide) ?_
                                          cases hf
                                          exact reta_z (by decide) hC hKA hLX hR hS (nfin hm) (nfin hn) dL_refused_366
                                        · have hf := if_of_neg hf (fun q => q c183)
                                          refine lv_aload_n hx hb dL_refused_295 rfl (lv_at hl 2 rfl) ?_
                                          refine lv_bipush (v := 11) hx hb dL_refused_296 (by decide) ?_
                                          refine lv_iconst (v := 5) hx hb dL_refused_298 (by decide) ?_
                                          refine lv_iconst (v := 0) hx hb dL_refused_299 (by decide) ?_
                                          refine lv_iconst (v := 0) hx hb dL_refused_300 (by decide) ?_
                                          obtain ⟨q184, m185, n186, m187, n188, hcq184, hf, hem, hen⟩ := bt2_of hf
                                          refine kca_i (vx_runSW (As := [.ref (ad181 0 0), .int 11, .int 5, .int 0, .int 0]) (rest := []) ⟨hx, hb, hml, hown, hts⟩ (mL_call l hst D dA ad181 q176.2 _ x mi 11 5 0 0 q184.1 q184.2 m185 n186 hcq184) (vx_cwSW 5 hts gL_120 rfl rfl rfl (by decide +kernel) ⟨Nat.le_of_ble_eq_true rfl, Nat.le_of_ble_eq_true rfl⟩) (preSA_of hA hR hS hK hX hLX _) rfl rfl hl.1 rfl (lv_room (Nat.le_of_ble_eq_true rfl)) dL_refused_301 ⟨nle hm hem, nle hn hen⟩) hA hR hS (fun ad189 H locs hka hLX hR hS => ?_)
                                          have e190 := (hka 0 0 rfl (by decide)).1
                                          have hl : lv_has ls 5 [(4, .int 1), (2, .long q1.1), (0, .ref (ad189 0 0)), (1, .int a2)] := by rw [e190]; exact hl
                                          have hKA := KA_tr hKA hka (by decide)
                                          have hm := nadd hm hem
                                          have hn := nadd hn hen
                                          refine lv_ldc (v := (-2000000002)) hx hb hown (hts _ q_636) dL_refused_304 ?_
                                          refine lv_icmp_ne (tgt := 365) hx hb dL_refused_306 (by decide) (fun c191 => ?_) (fun c191 => ?_)
                                          · have hf := if_of_pos hf c191
                                            refine lv_iconst (v := 0) hx hb dL_refused_365 (by decide) ?_
                                            cases hf
                                            exact reta_z (by decide) hC hKA hLX hR hS (nfin hm) (nfin hn) dL_refused_366
                                          · have hf := if_of_neg hf (fun q => q c191)
                                            refine lv_aload_n hx hb dL_refused_309 rfl (lv_at hl 2 rfl) ?_
                                            refine lv_bipush (v := 13) hx hb dL_refused_310 (by decide) ?_
                                            refine lv_iconst (v := 5) hx hb dL_refused_312 (by decide) ?_
                                            refine lv_iconst (v := 0) hx hb dL_refused_313 (by decide) ?_
                                            refine lv_iconst (v := 0) hx hb dL_refused_314 (by decide) ?_
                                            obtain ⟨q192, m193, n194, m195, n196, hcq192, hf, hem, hen⟩ := bt2_of hf
                                            refine kca_i (vx_runSW (As := [.ref (ad189 0 0), .int 13, .int 5, .int 0, .int 0]) (rest := []) ⟨hx, hb, hml, hown, hts⟩ (mL_call l hst D dA ad189 q184.2 _ x mi 13 5 0 0 q192.1 q192.2 m193 n194 hcq192) (vx_cwSW 5 hts gL_120 rfl rfl rfl (by decide +kernel) ⟨Nat.le_of_ble_eq_true rfl, Nat.le_of_ble_eq_true rfl⟩) (preSA_of hA hR hS hK hX hLX _) rfl rfl hl.1 rfl (lv_room (Nat.le_of_ble_eq_true rfl)) dL_refused_315 ⟨nle hm hem, nle hn hen⟩) hA hR hS (fun ad197 H locs hka hLX hR hS => ?_)
                                            have e198 := (hka 0 0 rfl (by decide)).1
                                            have hl : lv_has ls 5 [(4, .int 1), (2, .long q1.1), (0, .ref (ad197 0 0)), (1, .int a2)] := by rw [e198]; exact hl
                                            have hKA := KA_tr hKA hka (by decide)
                                            have hm := nadd hm hem
                                            have hn := nadd hn hen
                                            refine lv_ldc (v := (-2000000002)) hx hb hown (hts _ q_636) dL_refused_318 ?_
                                            refine lv_icmp_ne (tgt := 365) hx hb dL_refused_320 (by decide) (fun c199 => ?_) (fun c199 => ?_)
                                            · have hf := if_of_pos hf c199
                                              refine lv_iconst (v := 0) hx hb dL_refused_365 (by decide) ?_
                                              cases hf
                                              exact reta_z (by decide) hC hKA hLX hR hS (nfin hm) (nfin hn) dL_refused_366
                                            · have hf := if_of_neg hf (fun q => q c199)
                                              refine lv_aload_n hx hb dL_refused_323 rfl (lv_at hl 2 rfl) ?_
                                              refine lv_bipush (v := 18) hx hb dL_refused_324 (by decide) ?_
                                              refine lv_iconst (v := (-1)) hx hb dL_refused_326 (by decide) ?_
                                              refine lv_iconst (v := 0) hx hb dL_refused_327 (by decide) ?_
                                              refine lv_iconst (v := 0) hx hb dL_refused_328 (by decide) ?_
                                              obtain ⟨q200, m201, n202, m203, n204, hcq200, hf, hem, hen⟩ := bt2_of hf
                                              refine kca_i (vx_runSW (As := [.ref (ad197 0 0), .int 18, .int (-1), .int 0, .int 0]) (rest := []) ⟨hx, hb, hml, hown, hts⟩ (mL_call l hst D dA ad197 q192.2 _ x mi 18 (-1) 0 0 q200.1 q200.2 m201 n202 hcq200) (vx_cwSW 5 hts gL_120 rfl rfl rfl (by decide +kernel) ⟨Nat.le_of_ble_eq_true rfl, Nat.le_of_ble_eq_true rfl⟩) (preSA_of hA hR hS hK hX hLX _) rfl rfl hl.1 rfl (lv_room (Nat.le_of_ble_eq_true rfl)) dL_refused_329 ⟨nle hm hem, nle hn hen⟩) hA hR hS (fun ad205 H locs hka hLX hR hS => ?_)
                                              have e206 := (hka 0 0 rfl (by decide)).1
                                              have hl : lv_has ls 5 [(4, .int 1), (2, .long q1.1), (0, .ref (ad205 0 0)), (1, .int a2)] := by rw [e206]; exact hl
                                              have hKA := KA_tr hKA hka (by decide)
                                              have hm := nadd hm hem
                                              have hn := nadd hn hen
                                              refine lv_ldc (v := (-2000000002)) hx hb hown (hts _ q_636) dL_refused_332 ?_
                                              refine lv_icmp_ne (tgt := 365) hx hb dL_refused_334 (by decide) (fun c207 => ?_) (fun c207 => ?_)
                                              · have hf := if_of_pos hf c207
                                                refine lv_iconst (v := 0) hx hb dL_refused_365 (by decide) ?_
                                                cases hf
                                                exact reta_z (by decide) hC hKA hLX hR hS (nfin hm) (nfin hn) dL_refused_366
                                              · have hf := if_of_neg hf (fun q => q c207)
                                                refine lv_aload_n hx hb dL_refused_337 rfl (lv_at hl 2 rfl) ?_
                                                refine lv_bipush (v := 20) hx hb dL_refused_338 (by decide) ?_
                                                refine lv_iconst (v := (-1)) hx hb dL_refused_340 (by decide) ?_
                                                refine lv_iconst (v := 0) hx hb dL_refused_341 (by decide) ?_
                                                refine lv_iconst (v := 0) hx hb dL_refused_342 (by decide) ?_
                                                obtain ⟨q208, m209, n210, m211, n212, hcq208, hf, hem, hen⟩ := bt2_of hf
                                                refine kca_i (vx_runSW (As := [.ref (ad205 0 0), .int 20, .int (-1), .int 0, .int 0]) (rest := []) ⟨hx, hb, hml, hown, hts⟩ (mL_call l hst D dA ad205 q200.2 _ x mi 20 (-1) 0 0 q208.1 q208.2 m209 n210 hcq208) (vx_cwSW 5 hts gL_120 rfl rfl rfl (by decide +kernel) ⟨Nat.le_of_ble_eq_true rfl, Nat.le_of_ble_eq_true rfl⟩) (preSA_of hA hR hS hK hX hLX _) rfl rfl hl.1 rfl (lv_room (Nat.le_of_ble_eq_true rfl)) dL_refused_343 ⟨nle hm hem, nle hn hen⟩) hA hR hS (fun ad213 H locs hka hLX hR hS => ?_)
                                                have e214 := (hka 0 0 rfl (by decide)).1
                                                have hl : lv_has ls 5 [(4, .int 1), (2, .long q1.1), (0, .ref (ad213 0 0)), (1, .int a2)] := by rw [e214]; exact hl
                                                have hKA := KA_tr hKA hka (by decide)
                                                have hm := nadd hm hem
                                                have hn := nadd hn hen
                                                refine lv_ldc (v := (-2000000002)) hx hb hown (hts _ q_636) dL_refused_346 ?_
                                                refine lv_icmp_ne (tgt := 365) hx hb dL_refused_348 (by decide) (fun c215 => ?_) (fun c215 => ?_)
                                                · have hf := if_of_pos hf c215
                                                  refine lv_iconst (v := 0) hx hb dL_refused_365 (by decide) ?_
                                                  cases hf
                                                  exact reta_z (by decide) hC hKA hLX hR hS (nfin hm) (nfin hn) dL_refused_366
                                                · have hf := if_of_neg hf (fun q => q c215)
                                                  refine lv_aload_n hx hb dL_refused_351 rfl (lv_at hl 2 rfl) ?_
                                                  refine lv_iload_n hx hb dL_refused_352 rfl (lv_at hl 3 rfl) ?_
                                                  obtain ⟨q216, m217, n218, m219, n220, hcq216, hf, hem, hen⟩ := bt2_of hf
                                                  refine kca_l (va_runS (As := [.ref (ad213 0 0), .int a2]) (rest := []) ⟨hx, hb, hml, hown, hts⟩ (mL_all l hst D dA ad213 q208.2 _ x mi a2 q216.1 q216.2 m217 n218 hcq216) (va_cwS 2 hts gL_135 rfl rfl rfl (by decide +kernel) ⟨Nat.le_of_ble_eq_true rfl, Nat.le_of_ble_eq_true rfl⟩) (preSA_of hA hR hS hK hX hLX _) rfl rfl hl.1 rfl (lv_room (Nat.le_of_ble_eq_true rfl)) dL_refused_353 ⟨nle hm hem, nle hn hen⟩) hA hR hS (fun ad221 H locs hka hLX hR hS => ?_)
                                                  have e222 := (hka 0 0 rfl (by decide)).1
                                                  have hl : lv_has ls 5 [(4, .int 1), (2, .long q1.1), (0, .ref (ad221 0 0)), (1, .int a2)] := by rw [e222]; exact hl
                                                  have hKA := KA_tr hKA hka (by decide)
                                                  have hm := nadd hm hem
                                                  have hn := nadd hn hen
                                                  refine lv_lload_n hx hb dL_refused_356 rfl (lv_at hl 1 rfl) ?_
                                                  refine W.lcmp hx hb dL_refused_357 ?_
                                                  refine lv_if_ne (tgt := 365) hx hb dL_refused_358 (by decide) (fun c2230 => ?_) (fun c2230 => ?_)
                                                  · have c223 : ¬ q216.1 = q1.1 := fun q => c2230 ((lg_cmp_eq _ _).mpr q)
                                                    have hf := if_of_pos hf c223
                                                    refine lv_iconst (v := 0) hx hb dL_refused_365 (by decide) ?_
                                                    cases hf
                                                    exact reta_z (by decide) hC hKA hLX hR hS (nfin hm) (nfin hn) dL_refused_366
                                                  · have c223 : ¬ ¬ q216.1 = q1.1 := fun q => q ((lg_cmp_eq _ _).mp c2230)
                                                    have hf := if_of_neg hf c223
                                                    refine lv_iconst (v := 1) hx hb dL_refused_361 (by decide) ?_
                                                    refine lv_goto (tgt := 366) hx hb dL_refused_362 (by decide) ?_
                                                    cases hf
                                                    exact reta_z (by decide) hC hKA hLX hR hS (nfin hm) (nfin hn) dL_refused_366
