/-! THE LAW'S BEGINNING -/
theorem cvC_lt {σ : St} {f i : Nat} (h : cvC σ f i) : f < 20 := by
  rcases Nat.lt_or_ge f 20 with h2 | h2
  · exact h2
  · obtain ⟨k, rfl⟩ := Nat.exists_eq_add_of_le' h2
    exact h.elim
theorem WW_nil {D : va_G} {A : Nat → Prop} {H : Heap} : WW D vwCl A (fun _ _ => 0) (cvL []) ct0 H :=
  ⟨⟨[], fun _ => .inr (0, []), fun k q h => by simp [va_pl] at h, ⟨fun i j p q h1 h2 e => by simp [va_pl] at h1, fun k q h => by simp [va_pl] at h⟩, fun f i q => nomatch q⟩, fun f i g j q => nomatch q⟩
set_option maxHeartbeats 1000000 in
theorem law_begin {p : Program} {l : Launch} {e : Env} {s : State} {m : MethodId} {args : Array Value} {below : List Frame} {meth : Method} {c : Code} {Q : State → Prop} {ls : Array Slot} {D : va_G} {dA : Nat → ClassId} {x mi b L mr sr : Nat} {xs : Nat → Int32} {r : Int32} {σ1' σ2' : St} (hst : l.stackTraces = false) (h0 : ∀ w ∈ lw_tbl, w.before args s = true) (hC : CTX p s m args meth c code 14 RL ret) (hK : KS D dA s) (hX : EXT x mi (newA s) s s.heap) (hXS : va_X b L xs s s.heap) (hbl : b < s.heap.size) (hL : L ≤ 260) (hl : lv_has ls 14 [(0, .ref b)]) (hfl : fL_law_J16 L xs sig0 sig0 = some ((r, σ1', σ2'), mr, sr)) (hmr : 74 + mr ≤ 685711) (hsr : 282 + sr ≤ 7044564) (hret : ∀ (H : Heap) (locs : List Loc) (ls : Array Slot) (c1 s1 : Nat), va_S (newA s) s.heap H locs → c1 ≤ 685711 → s1 ≤ 7044564 → W p l e room_1 s m args below meth c H locs c1 s1 Q (F0 m 521 ls [.int r])) : W p l e room_1 s m args below meth c s.heap [] 0 0 Q (F0 m 0 ls []) := by
  obtain ⟨hx, hb, hml, hown, hts, hr, hlk⟩ := id hC
  have hA : ∀ q, s.heap.size ≤ q → newA s q := newA_in s
  have hS0 : va_S (newA s) s.heap s.heap [] := va_S.rf
  refine cn_o 0 0 (C := RX5) (T := TX5) (N := 8) (ci := 6) (fs := f0NC) hx hb hts iuX5 tyX5 tyX5_ok hown (h0 _ (lw_in1 (List.mem_of_getElem? (i := 23) rfl))) (h0 _ (lw_in1 (List.mem_of_getElem? (i := 24) rfl))) (h0 _ (lw_in1 (List.mem_of_getElem? (i := 1) rfl))) hK.1 WW_nil hS0 hA rfl (by decide) (Nat.le_of_ble_eq_true rfl) (Nat.le_of_ble_eq_true rfl) (by decide) dL_law_0 (fun q5 H hAq hR hS => ?_)
  refine lv_dup hx hb dL_law_3 rfl ?_
  have hf : ∀ q, A1 q5 H.size q → newA s q := fun q h => h.elim (fun e => e ▸ hAq) (fun h => hA q (Nat.le_trans hS.1 h))
  refine va_callv (va_runI (As := []) (rest := [.ref q5]) ⟨hx, hb, hml, hown, hts⟩ (mX5_init l D dA q5 _ x mi) ⟨callB_of 0 hts (gN_of (wu_mem (lw_in1 (List.mem_of_getElem? (i := 27) rfl)) rfl)) rfl rfl rfl (h0 _ (lw_in1 (List.mem_of_getElem? (i := 1) rfl))) (h0 _ (lw_in1 (List.mem_of_getElem? (i := 25) rfl))) (by decide +kernel) ⟨Nat.le_of_ble_eq_true rfl, Nat.le_of_ble_eq_true rfl⟩, rfl, (h0 _ (lw_in1 (List.mem_of_getElem? (i := 26) rfl)))⟩ (pre1x_of (f := 0) (i := 0) hR (by decide) rfl hK rfl hA hS hX) rfl rfl hl.1 rfl (lv_room (Nat.le_of_ble_eq_true rfl)) dL_law_4 ⟨Nat.le_of_ble_eq_true rfl, Nat.le_of_ble_eq_true rfl⟩) hS (fun q _ h => hf q h) hf (fun u t H1 locs1 ht hvm hw hB hz hk hS1 => ?_)
  obtain ⟨hu, hLX⟩ := hw
  have hB : HC D dA (A1 q5 H.size) u sig0 t.heap := hB
  rw [ht] at hB
  have hC1 : HC D dA (newA s) u sig0 H1 := WW_weaken hB hf
  clear hk hB hz hvm hf hS hR
  subst hu
  refine lv_astore_n (lv' := [(1, .ref (u 0 0)), (0, .ref b)]) hx hb dL_law_7 rfl hl (by decide) rfl (fun ls hl => ?_)
  refine ww_new (f0 := 21) (i0 := 0) (cv' := fun f i => (f = 21 ∧ i = 0) ∨ cvC sig0 f i) (ct' := fun _ => ctU (ctC dA u sig0) 21 0 (.inr (6, f0NC))) (C := RX5) (T := TX5) (N := 8) (ci := 6) (fs := f0NC) hx hb hts iuX5 tyX5 tyX5_ok hown (h0 _ (lw_in1 (List.mem_of_getElem? (i := 23) rfl))) (h0 _ (lw_in1 (List.mem_of_getElem? (i := 24) rfl))) (h0 _ (lw_in1 (List.mem_of_getElem? (i := 1) rfl))) hK.1 hC1 hS1 hA rfl (by decide) (Nat.le_of_ble_eq_true rfl) (Nat.le_of_ble_eq_true rfl) (fun z => absurd (cvC_lt z) (by decide)) (fun f j z => z) (fun q f j z => if_neg (fun z2 => by have := cvC_lt z; omega)) (fun q => if_pos ⟨rfl, rfl⟩) dL_law_8 (fun qM H hAq hne hR hS => ?_)
  refine lv_dup hx hb dL_law_11 rfl ?_
  have hf : ∀ q, A1 qM H.size q → newA s q := fun q h => h.elim (fun e => e ▸ hAq) (fun h => hA q (Nat.le_trans hS.1 h))
  have hR1 : HC D dA (newA s) u sig0 H := WW_sub hR (fun f i z => ⟨f, i, Or.inr z, (ad1_ne (fun z2 => by have := cvC_lt z; omega)).symm, (if_neg (fun z2 => by have := cvC_lt z; omega)).symm⟩) hC1.2
  refine va_callv (va_runI (As := []) (rest := [.ref qM]) ⟨hx, hb, hml, hown, hts⟩ (mX5_init l D dA qM _ x mi) ⟨callB_of 0 hts (gN_of (wu_mem (lw_in1 (List.mem_of_getElem? (i := 27) rfl)) rfl)) rfl rfl rfl (h0 _ (lw_in1 (List.mem_of_getElem? (i := 1) rfl))) (h0 _ (lw_in1 (List.mem_of_getElem? (i := 25) rfl))) (by decide +kernel) ⟨Nat.le_of_ble_eq_true rfl, Nat.le_of_ble_eq_true rfl⟩, rfl, (h0 _ (lw_in1 (List.mem_of_getElem? (i := 26) rfl)))⟩ (pre1x_of (f := 21) (i := 0) hR (Or.inl ⟨rfl, rfl⟩) (if_pos ⟨rfl, rfl⟩) hK (ad1_at u 21 0 qM) hA hS hX) rfl rfl hl.1 rfl (lv_room (Nat.le_of_ble_eq_true rfl)) dL_law_12 ⟨Nat.le_of_ble_eq_true rfl, Nat.le_of_ble_eq_true rfl⟩) hS (fun q _ h => hf q h) hf (fun um t H2 locs2 ht hvm hw hB hz hk hS2 => ?_)
  obtain ⟨hu, hLX2⟩ := hw
  have hB : HC D dA (A1 qM H.size) um sig0 t.heap := hB
  rw [ht] at hB
  have hne1 : ∀ f i, cvC sig0 f i → ¬ A1 qM H.size (u f i) := fun f i z z2 => by
    rcases z2 with z2 | z2
    · exact hne f i z z2
    · have := WW_lt hR1 z
      omega
  have hW : W2 D dA x (u 0 0) (um 0 0) sig0 sig0 (newA s) H2 := ⟨u, um, rfl, rfl, WW_keep hR1 hk hne1, WW_weaken hB hf, fun f i g j z1 z2 z3 => hne1 f i z1 (by rw [z3]; exact WW_A hB z2), hLX, hLX2⟩
  subst hu
  refine lv_astore_n (lv' := [(2, .ref (um 0 0)), (1, .ref (u 0 0)), (0, .ref b)]) hx hb dL_law_15 rfl hl (by decide) rfl (fun ls hl => ?_)
  exact wL_law_J16 (mc := 74 + mr) (ms := 282 + sr) hC hK hA hX hst hXS hbl (show ¬ s.heap.size ≤ b by omega) hL hmr hsr (fun H locs ls c1 s1 z1 z2 z3 => hret H locs ls c1 s1 z1 (Nat.le_trans z2 hmr) (Nat.le_trans z3 hsr)) H2 locs2 ls 74 282 mr sr sig0 sig0 rfl rfl hW hS2 (lv_sub hl [2, 1, 0] rfl) hfl
