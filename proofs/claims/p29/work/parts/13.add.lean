/-! ArrayList.add (by hand) -/
section WASM
variable {p : Program} {l : Launch} {e : Env} {R : Room} {s : State} {m : MethodId} {args : Array Value} {below : List Frame} {meth : Method} {c : Code} {H : Heap} {locs : List Loc} {cells slots : Nat} {Q : State → Prop}
variable {cc : ByteArray} {pc : Nat} {ls : Array Slot} {rest : List Value} {D : va_G} {cl : List vw_C} {tys : List (ClassId × FieldType)} {A : Nat → Prop} {ad : Nat → Nat → Nat} {cv : Nat → Nat → Prop} {ct : Nat → Nat → va_E} {H0 : Heap}
theorem ww_astM (hexec : p.tables.exec = Jvm.exec) (hb : c.code = cc) (hK : va_K D cl tys s) (hR : WW D cl A ad cv ct H) (hS0 : va_S A H0 H locs) (t0 : Nat) {f j v : Nat} {E : String} (hv : cv f j) {cA : ClassId} {n : Nat} {fa : Nat → Option Nat} (ha : ct f j = .inl (cA, n, rfs fa)) (ht : tys[t0]? = some (cA, .object E)) (hr : va_Any E s H v) {i : Int32} (hin : vp_in i n) (hdg : decode cc pc = .ok (.aastore, 1))
    (kk : ∀ (H1 : Heap) (locs1 : List Loc), WW D cl A ad cv (fun a b => if a = f ∧ b = j then .inl (cA, n, rfs (va_up fa i.toNatClampNeg (some v))) else ct a b) H1 → va_S A H0 H1 locs1 → W p l e R s m args below meth c H1 locs1 cells slots Q (F0 m (pc + 1) ls rest)) : W p l e R s m args below meth c H locs cells slots Q (F0 m pc ls (.ref v :: .int i :: .ref (ad f j) :: rest)) := by
  obtain ⟨⟨L, fn, hP, hD, hcc⟩, hi⟩ := hR
  obtain ⟨q0, hq⟩ := pl_at (fn := fn) (hcc f j hv).1
  refine va_astqM hexec hb hK hP hD hS0 q0 t0 (hq.trans (by rw [(hcc f j hv).2, ha])) ht hr hin hdg fun H1 locs1 hP1 hD1 hS1 => ?_
  exact kk H1 locs1 (WW_set hcc hi hv hD hq hP1 hD1) hS1
end WASM
abbrev PreG (D : va_G) (dA : Nat → ClassId) (ad : Nat → Nat → Nat) (σ : St) (x mi sz : Nat) (U : State) : Prop := U.heap.size = sz ∧ HA D dA (fun _ => True) ad σ U.heap ∧ KS D dA U ∧ EXT x mi (WA ad (cvA σ) sz) U U.heap ∧ (gN σ 1 = 0 → ad 1 0 = x) ∧ ELS D ad σ U.heap
theorem EL_kept {D : va_G} {H H1 : Heap} {y : Nat} (h : EL D H y) (hk : H1[y]? = H[y]?) : EL D H1 y := by
  obtain ⟨ci, fs, hci, hat⟩ := h
  exact ⟨ci, fs, hci, hat.kept hk⟩
theorem EL_lt {D : va_G} {H : Heap} {y : Nat} (h : EL D H y) : y < H.size := by
  obtain ⟨ci, fs, hci, hat⟩ := h
  exact hat.lt
/-- an element lies outside the list's cells -/
theorem ELS_out {ad : Nat → Nat → Nat} {σ : St} {H : Heap} {y : Nat} (hy : y < H.size) (hn : ∀ f i, cvA σ f i → y ≠ ad f i) : ¬ WA ad (cvA σ) H.size y := by
  rintro (⟨f, i, hv, e⟩ | q)
  · exact hn f i hv e
  · omega
set_option maxHeartbeats 4000000 in
set_option maxRecDepth 100000 in
theorem c_grow0 (l : Launch) (D : va_G) (dA : Nat → ClassId) (ad : Nat → Nat → Nat) (σ : St) (x mi sz : Nat) (hn : gN σ 0 = gN σ 1) (hc : gN σ 1 ≤ 1000000) : Met l yJx4a65c_grow_d5877 (WSy yJx4a65c_grow_d5877 cJx4a65c_grow_d5877 1 (some GA)) ({ frames := 4, cells := 1, slots := gcap (gN σ 1), locals := 113 } : Room)
    (va_Pc [.ref (ad 0 0)] (PreG D dA ad σ x mi sz))
    (va_Qr (fun (_ : Unit) => True) (fun _ q t => sz ≤ q ∧ HA D dA (WA ad (cvA σ) sz) (ad1 ad 1 0 q) (pN σ 1 (gcap (gN σ 1))) t.heap) (WA ad (cvA σ) sz)) 1 (gcap (gN σ 1)) (WA ad (cvA σ) sz) := by
  refine met_of (by decide) (Nat.le_of_ble_eq_true rfl) ?_
  intro p e s m below meth c ls hC hB hl
  obtain ⟨rfl, hR, hK, hX, hx0, hE⟩ := hB
  have hA : ∀ q : Nat, s.heap.size ≤ q → WA ad (cvA σ) s.heap.size q := fun q h => Or.inr h
  have hR := WW_fit (B := WA ad (cvA σ) s.heap.size) hR (fun f i h => WA_in h)
  have hS : va_S (WA ad (cvA σ) s.heap.size) s.heap s.heap [] := va_S.rf
  have hC : CTX p s m _ meth c cJx4a65c_grow_d5877 1 RJx4a65c (some GA) := hC
  obtain ⟨hx, hb, hml, hown, hts, hr, hlk⟩ := id hC
  have hl : lv_has ls 1 [(0, .ref (ad 0 0))] := hl
  refine lv_aload_n hx hb dJx4a65c_grow_d5877_0 rfl (lv_at hl 0 rfl) ?_
  refine lv_aload_n hx hb dJx4a65c_grow_d5877_1 rfl (lv_at hl 0 rfl) ?_
  refine va_get (D := D) (ci := 0) (C := RJx4a65c) (T := TJx4a65c) (N := 3) hx hb hts iuJx4a65c hown hK.1 (WW_one hR (f := 0) (i := 0) rfl) 0 rfl rfl 2 (by decide) (hts _ q_86) (fun _ h9 => h9) rfl dJx4a65c_grow_d5877_2 ?_
  refine lv_iconst (v := 1) hx hb dJx4a65c_grow_d5877_5 (by decide) ?_
  refine lv_iadd hx hb dJx4a65c_grow_d5877_6 ?_
  refine W.eq (g2 := F0 m 7 ls [.int (nI (gN σ 1 + 1)), .ref (ad 0 0)]) (by rw [nI_1, hn]) ?_
  refine va_callr (va_runV (As := [.int (nI (gN σ 1 + 1))]) (rest := []) ⟨hx, hb, hml, hown, hts⟩ (c_growI l D dA ad σ x mi s.heap.size hn hc) (cwV 1 hts (gV_of q_462 q_464 q_11 q_38 q_465) rfl rfl rfl (by decide +kernel) ⟨Nat.le_of_ble_eq_true rfl, Nat.le_of_ble_eq_true rfl⟩) ⟨fun a U g mk q => ?_, va_recv hK.1 (WW_one hR (f := 0) (i := 0) rfl) (q0 := 0) (ci := 0) rfl rfl, fun U hU hW => ⟨rfl, by rw [hU], by rw [hU]; exact WW_weaken hR (fun _ _ => trivial), KS_warm hW hK, EXT_at hX hS (fun _ h => h) hU hW, hx0, by rw [hU]; exact hE⟩⟩ rfl rfl hl.1 rfl (lv_room (Nat.le_of_ble_eq_true rfl)) dJx4a65c_grow_d5877_7 ⟨Nat.le_refl _, Nat.le_of_eq (Nat.zero_add _)⟩) hS (fun q _ h => h) (fun q h => h) (fun u ra t H1 locs1 ht hvm hw hB hz hk1 hS1 => ?_)
  · obtain ⟨q0, q1, q2, q3, q4, q5⟩ := q
    exact ⟨q0, q1, q2, KS_calling q3, EXT_calling q4, q5⟩
  refine W.widen (k := 1) (n := gcap (gN σ 1)) (Nat.le_refl 1) (Nat.le_of_eq (Nat.zero_add _)) ?_
  rw [ht] at hB
  exact ret_r () hC trivial (fun t ht => by rw [ht]; exact hB) hS1 dJx4a65c_grow_d5877_10
def acap (n c : Nat) : Nat := if n = c then gcap c else c
def amc (n c : Nat) : Nat := if n = c then 1 else 0
def ams (n c : Nat) : Nat := if n = c then gcap c else 0
theorem ad1_self (ad : Nat → Nat → Nat) (f i : Nat) : ad1 ad f i (ad f i) = ad := by
  funext a b
  unfold ad1
  split
  · rename_i h; obtain ⟨rfl, rfl⟩ := h; rfl
  · rfl
theorem pN_self (σ : St) (k : Nat) : pN σ k (gN σ k) = σ := by
  obtain ⟨a, b, c⟩ := σ
  unfold pN gN
  congr 2
  funext j
  dsimp only
  split
  · rename_i h; subst h; rfl
  · rfl
set_option maxHeartbeats 4000000 in
set_option maxRecDepth 100000 in
/-- add(e, row, n): the row holds it, made larger first where it is full -/
theorem c_add3 (l : Launch) (D : va_G) (dA : Nat → ClassId) (ad : Nat → Nat → Nat) (σ : St) (x mi sz y : Nat) (hn : gN σ 0 ≤ gN σ 1) (hc : gN σ 1 ≤ 1000000) (hyn : ∀ f i, cvA σ f i → y ≠ ad f i) : Met l yJx4a65c_add_72be8 (WSy yJx4a65c_add_72be8 cJx4a65c_add_72be8 4 none) ({ frames := 5, cells := amc (gN σ 0) (gN σ 1), slots := ams (gN σ 0) (gN σ 1), locals := 133 } : Room)
    (va_Pc [.ref (ad 0 0), .ref y, .ref (ad 1 0), .int (nI (gN σ 0))] (fun U => PreG D dA ad σ x mi sz U ∧ EL D U.heap y))
    (va_Qv (fun (q : Nat) => (gN σ 0 ≠ gN σ 1 → q = ad 1 0) ∧ (gN σ 0 = gN σ 1 → sz ≤ q)) (fun q t => HA D dA (WA ad (cvA σ) sz) (ad1 (ad1 ad 1 0 q) 2 (gN σ 0) y) (pN (pN σ 1 (acap (gN σ 0) (gN σ 1))) 0 (gN σ 0 + 1)) t.heap) (WA ad (cvA σ) sz)) (amc (gN σ 0) (gN σ 1)) (ams (gN σ 0) (gN σ 1)) (WA ad (cvA σ) sz) := by
  refine met_of (by decide) (Nat.le_of_ble_eq_true rfl) ?_
  intro p e s m below meth c ls hC hB hl
  obtain ⟨⟨rfl, hR, hK, hX, hx0, hE⟩, hy⟩ := hB
  have hA : ∀ q : Nat, s.heap.size ≤ q → WA ad (cvA σ) s.heap.size q := fun q h => Or.inr h
  have hR := WW_fit (B := WA ad (cvA σ) s.heap.size) hR (fun f i h => WA_in h)
  have hS : va_S (WA ad (cvA σ) s.heap.size) s.heap s.heap [] := va_S.rf
  have hC : CTX p s m _ meth c cJx4a65c_add_72be8 4 RJx4a65c none := hC
  obtain ⟨hx, hb, hml, hown, hts, hr, hlk⟩ := id hC
  have hl : lv_has ls 4 [(0, .ref (ad 0 0)), (1, .ref y), (2, .ref (ad 1 0)), (3, .int (nI (gN σ 0)))] := hl
  have hyo : ¬ WA ad (cvA σ) s.heap.size y := ELS_out (EL_lt hy) hyn
  have J : ∀ (q : Nat) (H : Heap) (locs : List Loc) (ls : Array Slot), (gN σ 0 ≠ gN σ 1 → q = ad 1 0) → (gN σ 0 = gN σ 1 → s.heap.size ≤ q) → gN σ 0 < acap (gN σ 0) (gN σ 1) → acap (gN σ 0) (gN σ 1) < 2 ^ 31 → HA D dA (WA ad (cvA σ) s.heap.size) (ad1 ad 1 0 q) (pN σ 1 (acap (gN σ 0) (gN σ 1))) H → va_S (WA ad (cvA σ) s.heap.size) s.heap H locs → lv_has ls 4 [(2, .ref q), (0, .ref (ad 0 0)), (1, .ref y), (3, .int (nI (gN σ 0)))] →
      W p l e ({ frames := 5, cells := amc (gN σ 0) (gN σ 1), slots := ams (gN σ 0) (gN σ 1), locals := 133 } : Room) s m #[.ref (ad 0 0), .ref y, .ref (ad 1 0), .int (nI (gN σ 0))] below meth c H locs (amc (gN σ 0) (gN σ 1)) (ams (gN σ 0) (gN σ 1)) (MQ below (va_Qv (fun (q : Nat) => (gN σ 0 ≠ gN σ 1 → q = ad 1 0) ∧ (gN σ 0 = gN σ 1 → s.heap.size ≤ q)) (fun q t => HA D dA (WA ad (cvA σ) s.heap.size) (ad1 (ad1 ad 1 0 q) 2 (gN σ 0) y) (pN (pN σ 1 (acap (gN σ 0) (gN σ 1))) 0 (gN σ 0 + 1)) t.heap) (WA ad (cvA σ) s.heap.size)) #[.ref (ad 0 0), .ref y, .ref (ad 1 0), .int (nI (gN σ 0))] s (amc (gN σ 0) (gN σ 1)) (ams (gN σ 0) (gN σ 1)) (WA ad (cvA σ) s.heap.size)) (F0 m 11 ls []) := by
    intro q H locs ls hq1 hq2 hlt hbig hR hS hl
    have hcap : 0 < acap (gN σ 0) (gN σ 1) := by omega
    have hv1 : cvA (pN σ 1 (acap (gN σ 0) (gN σ 1))) 1 0 := ⟨rfl, hcap⟩
    have eq1 : ad1 ad 1 0 q 1 0 = q := ad1_at _ _ _ _
    have eq0 : ad1 ad 1 0 q 0 0 = ad 0 0 := ad1_ne (by decide)
    refine lv_aload_n hx hb dJx4a65c_add_72be8_11 rfl (lv_at hl 0 rfl) ?_
    refine lv_iload_n hx hb dJx4a65c_add_72be8_12 rfl (lv_at hl 3 rfl) ?_
    refine lv_aload_n hx hb dJx4a65c_add_72be8_13 rfl (lv_at hl 2 rfl) ?_
    refine W.eq (g2 := F0 m 14 ls [.ref y, .int (nI (gN σ 0)), .ref (ad1 ad 1 0 q 1 0)]) (by rw [eq1]) ?_
    refine ww_astM (E := "java/lang/Object") hx hb hK.1 hR hS 6 hv1 rfl rfl (EL_any hK (EL_kept hy (hS.2.1 y (EL_lt hy) hyo))) (vp_in_nI hlt hbig) dJx4a65c_add_72be8_14 (fun H locs hR hS => ?_)
    refine lv_aload_n hx hb dJx4a65c_add_72be8_15 rfl (lv_at hl 1 rfl) ?_
    refine lv_iload_n hx hb dJx4a65c_add_72be8_16 rfl (lv_at hl 3 rfl) ?_
    refine lv_iconst (v := 1) hx hb dJx4a65c_add_72be8_17 (by decide) ?_
    refine lv_iadd hx hb dJx4a65c_add_72be8_18 ?_
    refine W.eq (g2 := F0 m 19 ls [.int (nI (gN σ 0 + 1)), .ref (ad1 ad 1 0 q 0 0)]) (by rw [eq0, nI_1]) ?_
    refine ww_put (D := D) (ci := 0) (C := RJx4a65c) (T := TJx4a65c) (N := 3) (ty := .int) hx hb hts iuJx4a65c tyJx4a65c tyJx4a65c_ok nmJx4a65c hown hK.1 hR hS (f := 0) (i := 0) rfl rfl rfl 2 (by decide) (hts _ q_86) (fun _ h9 => h9) rfl (by decide +kernel) rfl rfl (Nat.le_of_ble_eq_true rfl) dJx4a65c_add_72be8_19 (fun H locs hR hS => ?_)
    have hF : HA D dA (WA ad (cvA σ) s.heap.size) (ad1 (ad1 ad 1 0 q) 2 (gN σ 0) y) (pN (pN σ 1 (acap (gN σ 0) (gN σ 1))) 0 (gN σ 0 + 1)) H := by
      have e2 : ∀ f i, cvA (pN (pN σ 1 (acap (gN σ 0) (gN σ 1))) 0 (gN σ 0 + 1)) f i → ad1 (ad1 ad 1 0 q) 2 (gN σ 0) y f i = ad1 ad 1 0 q f i := fun f i hv => ad1_ne (fun e => by obtain ⟨rfl, rfl⟩ := e; simp [cvA] at hv)
      have ec : ∀ f i, cvA (pN (pN σ 1 (acap (gN σ 0) (gN σ 1))) 0 (gN σ 0 + 1)) f i → cvA (pN σ 1 (acap (gN σ 0) (gN σ 1))) f i := fun f i hv => by
        match f, hv with
        | 0, hv => exact hv
        | 1, hv => exact hv
        | f + 2, hv => exact absurd hv (by simp [cvA])
      refine WW_sub hR (fun f i hv => ⟨f, i, ec f i hv, e2 f i hv, ?_⟩) (fun f i g j q1 q2 e => hR.2 f i g j (ec f i q1) (ec g j q2) (by rw [← e2 f i q1, ← e2 g j q2]; exact e))
      match f, hv with
      | 0, hv =>
        have hi : i = 0 := hv
        subst hi
        have e10 : ad1 (ad1 ad 1 0 q) 2 (gN σ 0) y 1 0 = ad1 ad 1 0 q 1 0 := ad1_ne (fun e => absurd e.1 (by decide))
        simp [ctA, gI_pN, gN_pN, e10]
      | 1, hv =>
        have hi : i = 0 := hv.1
        subst hi
        have ef : (fun j => if j < gN σ 0 + 1 then some (ad1 (ad1 ad 1 0 q) 2 (gN σ 0) y 2 j) else none) = va_up (fun j => if j < gN σ 0 then some (ad1 ad 1 0 q 2 j) else none) (gN σ 0) (some y) := by
          funext j
          by_cases hj : j = gN σ 0
          · subst hj
            simp [va_up, ad1]
          · have e5 : ad1 (ad1 ad 1 0 q) 2 (gN σ 0) y 2 j = ad1 ad 1 0 q 2 j := ad1_ne (fun e => hj e.2)
            simp only [va_up, if_neg hj, e5]
            by_cases h3 : j < gN σ 0
            · rw [if_pos (by omega), if_pos h3]
            · rw [if_neg (by omega), if_neg h3]
        have hcl : (nI (gN σ 0)).toNatClampNeg = gN σ 0 := nI_clamp (by omega)
        simp [ctA, gN_pN, ef, hcl]
      | f + 2, hv => exact absurd hv (by simp [cvA])
    exact W.vret hx hb hr (fun t ht hW => ⟨⟨q, rfl, ⟨hq1, hq2⟩, by show HA D dA _ _ _ t.heap; rw [ht]; exact hF⟩, hS.F ht⟩) hS.2.2 dJx4a65c_add_72be8_22 hlk
  refine lv_iload_n hx hb dJx4a65c_add_72be8_0 rfl (lv_at hl 3 rfl) ?_
  refine lv_aload_n hx hb dJx4a65c_add_72be8_1 rfl (lv_at hl 2 rfl) ?_
  by_cases hfull : gN σ 0 = gN σ 1
  · have hgo : ∀ (ls : Array Slot), lv_has ls 4 [(0, .ref (ad 0 0)), (1, .ref y), (2, .ref (ad 1 0)), (3, .int (nI (gN σ 0)))] → W p l e ({ frames := 5, cells := amc (gN σ 0) (gN σ 1), slots := ams (gN σ 0) (gN σ 1), locals := 133 } : Room) s m #[.ref (ad 0 0), .ref y, .ref (ad 1 0), .int (nI (gN σ 0))] below meth c s.heap [] 0 0 (MQ below (va_Qv (fun (q : Nat) => (gN σ 0 ≠ gN σ 1 → q = ad 1 0) ∧ (gN σ 0 = gN σ 1 → s.heap.size ≤ q)) (fun q t => HA D dA (WA ad (cvA σ) s.heap.size) (ad1 (ad1 ad 1 0 q) 2 (gN σ 0) y) (pN (pN σ 1 (acap (gN σ 0) (gN σ 1))) 0 (gN σ 0 + 1)) t.heap) (WA ad (cvA σ) s.heap.size)) #[.ref (ad 0 0), .ref y, .ref (ad 1 0), .int (nI (gN σ 0))] s (amc (gN σ 0) (gN σ 1)) (ams (gN σ 0) (gN σ 1)) (WA ad (cvA σ) s.heap.size)) (F0 m 3 ls [.int (nI (gN σ 1)), .int (nI (gN σ 0))]) := by
      intro ls hl
      have hcg : acap (gN σ 0) (gN σ 1) = gcap (gN σ 1) := if_pos hfull
      have ham : amc (gN σ 0) (gN σ 1) = 1 := if_pos hfull
      have has : ams (gN σ 0) (gN σ 1) = gcap (gN σ 1) := if_pos hfull
      have hup := gcap_up (gN σ 1)
      have hgt : gN σ 1 < gcap (gN σ 1) := by unfold gcap; split <;> (try split) <;> omega
      refine lv_icmp_ne (tgt := 11) hx hb dJx4a65c_add_72be8_3 (by decide) (fun c0 => absurd (by rw [hfull]) c0) (fun _ => ?_)
      refine lv_aload_n hx hb dJx4a65c_add_72be8_6 rfl (lv_at hl 0 rfl) ?_
      refine va_callr (va_runV (As := []) (rest := []) ⟨hx, hb, hml, hown, hts⟩ (c_grow0 l D dA ad σ x mi s.heap.size hfull hc) (cwV 0 hts (gV_of q_458 q_460 q_10 q_38 q_461) rfl rfl rfl (by decide +kernel) ⟨Nat.le_of_ble_eq_true rfl, Nat.le_of_ble_eq_true rfl⟩) ⟨fun a U g mk q => ?_, va_recv hK.1 (WW_one hR (f := 0) (i := 0) rfl) (q0 := 0) (ci := 0) rfl rfl, fun U hU hW => ⟨rfl, by rw [hU], by rw [hU]; exact WW_weaken hR (fun _ _ => trivial), KS_warm hW hK, EXT_at hX hS (fun _ h => h) hU hW, hx0, by rw [hU]; exact hE⟩⟩ rfl rfl hl.1 rfl (lv_room (Nat.le_of_ble_eq_true rfl)) dJx4a65c_add_72be8_7 ⟨by show 0 + 1 ≤ amc _ _; omega, by show 0 + gcap _ ≤ ams _ _; omega⟩) hS (fun q _ h => h) (fun q h => h) (fun u ra t H1 locs1 ht hvm hw hB hz hk1 hS1 => ?_)
      · obtain ⟨q0, q1, q2, q3, q4, q5⟩ := q
        exact ⟨q0, q1, q2, KS_calling q3, EXT_calling q4, q5⟩
      rw [ht] at hB
      refine lv_astore_n (lv' := [(2, .ref ra), (0, .ref (ad 0 0)), (1, .ref y), (3, .int (nI (gN σ 0)))]) hx hb dJx4a65c_add_72be8_10 rfl hl (by decide) rfl (fun ls hl => ?_)
      refine W.widen (k := amc (gN σ 0) (gN σ 1)) (n := ams (gN σ 0) (gN σ 1)) (by omega) (by omega) ?_
      exact J ra H1 locs1 ls (fun h => absurd hfull h) (fun _ => hB.1) (by omega) (by omega) (by rw [hcg]; exact hB.2) hS1 hl
    by_cases h0 : gN σ 1 = 0
    · have hx0' := hx0 h0
      refine W.eq (g2 := F0 m 2 ls [.ref x, .int (nI (gN σ 0))]) (by rw [hx0']) ?_
      refine va_tlen (v := nI (gN σ 1)) hx hb hX.2.1 hS (by rw [h0]; rfl) dJx4a65c_add_72be8_2 ?_
      exact hgo ls hl
    · refine va_alen (v := nI (gN σ 1)) (ty := .object "java/lang/Object") hx hb hK.1 (WW_one hR (f := 1) (i := 0) ⟨rfl, by omega⟩) 0 6 rfl rfl rfl dJx4a65c_add_72be8_2 ?_
      exact hgo ls hl
  · have hcg : acap (gN σ 0) (gN σ 1) = gN σ 1 := if_neg hfull
    have ham : amc (gN σ 0) (gN σ 1) = 0 := if_neg hfull
    have has : ams (gN σ 0) (gN σ 1) = 0 := if_neg hfull
    refine va_alen (v := nI (gN σ 1)) (ty := .object "java/lang/Object") hx hb hK.1 (WW_one hR (f := 1) (i := 0) ⟨rfl, by omega⟩) 0 6 rfl rfl rfl dJx4a65c_add_72be8_2 ?_
    refine lv_icmp_ne (tgt := 11) hx hb dJx4a65c_add_72be8_3 (by decide) (fun _ => ?_) (fun c0 => absurd ((nI_eq (by omega) (by omega)).mp c0) hfull)
    refine W.widen (k := amc (gN σ 0) (gN σ 1)) (n := ams (gN σ 0) (gN σ 1)) (by omega) (by omega) ?_
    exact J (ad 1 0) s.heap [] ls (fun _ => rfl) (fun h => absurd h hfull) (by omega) (by omega) (by rw [hcg, pN_self, ad1_self]; exact hR) hS (lv_sub hl [2, 0, 1, 3] rfl)
set_option maxHeartbeats 4000000 in
set_option maxRecDepth 100000 in
/-- add(e) -/
theorem c_add1 (l : Launch) (D : va_G) (dA : Nat → ClassId) (ad : Nat → Nat → Nat) (σ : St) (x mi sz y : Nat) (hn : gN σ 0 ≤ gN σ 1) (hc : gN σ 1 ≤ 1000000) (hyn : ∀ f i, cvA σ f i → y ≠ ad f i) : Met l yJx4a65c_add_9ea2d (WSy yJx4a65c_add_9ea2d cJx4a65c_add_9ea2d 2 (some .boolean)) ({ frames := 6, cells := amc (gN σ 0) (gN σ 1), slots := ams (gN σ 0) (gN σ 1), locals := 156 } : Room)
    (va_Pc [.ref (ad 0 0), .ref y] (fun U => PreG D dA ad σ x mi sz U ∧ EL D U.heap y))
    (va_Qi (fun (r : Int32) (q : Nat) => r = 1 ∧ (gN σ 0 ≠ gN σ 1 → q = ad 1 0) ∧ (gN σ 0 = gN σ 1 → sz ≤ q)) (fun q t => HA D dA (WA ad (cvA σ) sz) (ad1 (ad1 ad 1 0 q) 2 (gN σ 0) y) (pN (pN (pI σ 0 0 0 (gI σ 0 0 0 + 1)) 1 (acap (gN σ 0) (gN σ 1))) 0 (gN σ 0 + 1)) t.heap) (WA ad (cvA σ) sz)) (amc (gN σ 0) (gN σ 1)) (ams (gN σ 0) (gN σ 1)) (WA ad (cvA σ) sz) := by
  refine met_of (by decide) (Nat.le_of_ble_eq_true rfl) ?_
  intro p e s m below meth c ls hC hB hl
  obtain ⟨⟨rfl, hR, hK, hX, hx0, hE⟩, hy⟩ := hB
  have hA : ∀ q : Nat, s.heap.size ≤ q → WA ad (cvA σ) s.heap.size q := fun q h => Or.inr h
  have hR := WW_fit (B := WA ad (cvA σ) s.heap.size) hR (fun f i h => WA_in h)
  have hS : va_S (WA ad (cvA σ) s.heap.size) s.heap s.heap [] := va_S.rf
  have hC : CTX p s m _ meth c cJx4a65c_add_9ea2d 2 RJx4a65c (some .boolean) := hC
  obtain ⟨hx, hb, hml, hown, hts, hr, hlk⟩ := id hC
  have hl : lv_has ls 2 [(0, .ref (ad 0 0)), (1, .ref y)] := hl
  have hyo : ¬ WA ad (cvA σ) s.heap.size y := ELS_out (EL_lt hy) hyn
  refine lv_aload_n hx hb dJx4a65c_add_9ea2d_0 rfl (lv_at hl 0 rfl) ?_
  refine lv_dup hx hb dJx4a65c_add_9ea2d_1 rfl ?_
  refine va_get (D := D) (ci := 0) (C := RJx4a65c) (T := TJx4a65c) (N := 3) hx hb hts iuJx4a65c hown hK.1 (WW_one hR (f := 0) (i := 0) rfl) 0 rfl rfl 0 (by decide) (hts _ q_88) (fun z h9 => u_same (hts _ q_89) z h9) rfl dJx4a65c_add_9ea2d_2 ?_
  refine lv_iconst (v := 1) hx hb dJx4a65c_add_9ea2d_5 (by decide) ?_
  refine lv_iadd hx hb dJx4a65c_add_9ea2d_6 ?_
  refine ww_put (D := D) (ci := 0) (C := RJx4a65c) (T := TJx4a65c) (N := 3) (ty := .int) hx hb hts iuJx4a65c tyJx4a65c tyJx4a65c_ok nmJx4a65c hown hK.1 hR hS (f := 0) (i := 0) rfl rfl rfl 0 (by decide) (hts _ q_88) (fun z h9 => u_same (hts _ q_89) z h9) rfl (by decide +kernel) rfl rfl (Nat.le_of_ble_eq_true rfl) dJx4a65c_add_9ea2d_7 (fun H locs hR hS => ?_)
  have hR := HA_list_modCount 0 (gI σ 0 0 0 + 1) hR
  refine lv_aload_n hx hb dJx4a65c_add_9ea2d_10 rfl (lv_at hl 0 rfl) ?_
  refine lv_aload_n hx hb dJx4a65c_add_9ea2d_11 rfl (lv_at hl 1 rfl) ?_
  refine lv_aload_n hx hb dJx4a65c_add_9ea2d_12 rfl (lv_at hl 0 rfl) ?_
  refine va_get (D := D) (ci := 0) (C := RJx4a65c) (T := TJx4a65c) (N := 3) hx hb hts iuJx4a65c hown hK.1 (WW_one hR (f := 0) (i := 0) rfl) 0 rfl rfl 1 (by decide) (hts _ q_85) (fun _ h9 => h9) rfl dJx4a65c_add_9ea2d_13 ?_
  refine lv_aload_n hx hb dJx4a65c_add_9ea2d_16 rfl (lv_at hl 0 rfl) ?_
  refine va_get (D := D) (ci := 0) (C := RJx4a65c) (T := TJx4a65c) (N := 3) hx hb hts iuJx4a65c hown hK.1 (WW_one hR (f := 0) (i := 0) rfl) 0 rfl rfl 2 (by decide) (hts _ q_86) (fun _ h9 => h9) rfl dJx4a65c_add_9ea2d_17 ?_
  have hsz : s.heap.size ≤ H.size := hS.1
  have hfit : ∀ q, WA ad (cvA (pI σ 0 0 0 (gI σ 0 0 0 + 1))) H.size q → WA ad (cvA σ) s.heap.size q := fun q h => h.elim (fun h => Or.inl h) (fun h => Or.inr (Nat.le_trans hsz h))
  have hE1 : ELS D ad (pI σ 0 0 0 (gI σ 0 0 0 + 1)) H := fun j hj => ⟨EL_kept (hE j hj).1 (hS.2.1 _ (EL_lt (hE j hj).1) (ELS_out (EL_lt (hE j hj).1) (hE j hj).2)), (hE j hj).2⟩
  have hy1 : EL D H y := EL_kept hy (hS.2.1 _ (EL_lt hy) hyo)
  refine va_callv (va_runV (As := [.ref y, .ref (ad 1 0), .int (nI (gN σ 0))]) (rest := []) ⟨hx, hb, hml, hown, hts⟩ (c_add3 l D dA ad (pI σ 0 0 0 (gI σ 0 0 0 + 1)) x mi H.size y hn hc hyn) (cwV 3 hts (gV_of q_454 q_456 q_9 q_38 q_457) rfl rfl rfl (by decide +kernel) ⟨Nat.le_of_ble_eq_true rfl, Nat.le_of_ble_eq_true rfl⟩) ⟨fun a U g mk q => ?_, va_recv hK.1 (WW_one hR (f := 0) (i := 0) rfl) (q0 := 0) (ci := 0) rfl rfl, fun U hU hW => ⟨rfl, ⟨by rw [hU], by rw [hU]; exact WW_weaken hR (fun _ _ => trivial), KS_warm hW hK, EXT_at hX hS hfit hU hW, hx0, by rw [hU]; exact hE1⟩, by rw [hU]; exact hy1⟩⟩ rfl rfl hl.1 rfl (lv_room (Nat.le_of_ble_eq_true rfl)) dJx4a65c_add_9ea2d_20 ⟨Nat.le_of_eq (Nat.zero_add _), Nat.le_of_eq (Nat.zero_add _)⟩) hS (fun q _ h => hfit q h) (fun q h => hfit q h) (fun u t H1 locs1 ht hvm hw hB hz hk1 hS1 => ?_)
  · obtain ⟨q0, ⟨q1, q2, q3, q4, q5⟩, q6⟩ := q
    exact ⟨q0, ⟨q1, q2, KS_calling q3, EXT_calling q4, q5⟩, q6⟩
  rw [ht] at hB
  refine lv_iconst (v := 1) hx hb dJx4a65c_add_9ea2d_23 (by decide) ?_
  refine W.widen (k := amc (gN σ 0) (gN σ 1)) (n := ams (gN σ 0) (gN σ 1)) (Nat.le_of_eq (Nat.zero_add _)) (Nat.le_of_eq (Nat.zero_add _)) ?_
  have hF : HA D dA (WA ad (cvA σ) s.heap.size) (ad1 (ad1 ad 1 0 u) 2 (gN σ 0) y) (pN (pN (pI σ 0 0 0 (gI σ 0 0 0 + 1)) 1 (acap (gN σ 0) (gN σ 1))) 0 (gN σ 0 + 1)) H1 := WW_weaken hB hfit
  exact W.zret hx hb hr rfl (fun t ht hW => ⟨⟨1, u, rfl, ⟨rfl, hw.1, fun h => Nat.le_trans hsz (hw.2 h)⟩, by show HA D dA _ _ _ t.heap; rw [ht]; exact hF⟩, hS1.F ht⟩) hS1.2.2 dJx4a65c_add_9ea2d_24 hlk

