
abbrev A1 (a sz : Nat) : Nat → Prop := fun q => q = a ∨ sz ≤ q
abbrev Pre1 (D : va_G) (dA : Nat → ClassId) (a : Nat) (e : va_E) (sz : Nat) (U : State) : Prop := U.heap.size = sz ∧ a < sz ∧ WW D vwCl (fun _ => True) (fun _ _ => a) (cvL [(0, 0)]) (fun _ _ => e) U.heap ∧ KS D dA U
abbrev Q1 (D : va_G) (a : Nat) (e : va_E) (sz : Nat) := va_Qv (fun (_ : Unit) => True) (fun _ t => WW D vwCl (A1 a sz) (fun _ _ => a) (cvL [(0, 0)]) (fun _ _ => e) t.heap) (A1 a sz)
section C1R
variable {p : Program} {l : Launch} {e : Env} {R : Room} {s : State} {m : MethodId} {args : Array Value} {below : List Frame} {meth : Method} {c : Code} {H H0 : Heap} {locs : List Loc} {cells slots : Nat} {Q : State → Prop}
variable {cc : ByteArray} {pc nL : Nat} {own : String} {ls : Array Slot} {D : va_G} {dA : Nat → ClassId} {A0 : Nat → Prop} {ad : Nat → Nat → Nat} {cv : Nat → Nat → Prop} {ct : Nat → Nat → va_E} {rest st0 : List Value} {a : Nat} {arr : Array Value}
theorem one_WW {A : Nat → Prop} {f i : Nat} {en : va_E} (hR : WW D vwCl A ad cv ct H) (hv : cv f i) (he : ct f i = en) : WW D vwCl A (fun _ _ => ad f i) (cvL [(0, 0)]) (fun _ _ => en) H :=
  WW_sub hR (fun g j q => ⟨f, i, hv, rfl, he.symm⟩) (fun g j g' j' q1 q2 _ => by
    have h1 := Prod.mk.inj (List.mem_singleton.mp q1)
    have h2 := Prod.mk.inj (List.mem_singleton.mp q2)
    exact ⟨h1.1.trans h2.1.symm, h1.2.trans h2.2.symm⟩)
theorem pre1_of {f i : Nat} {en : va_E} (hR : WW D vwCl A0 ad cv ct H) (hv : cv f i) (he : ct f i = en) (hK : KS D dA s) (ha : ad f i = a) : PreS s H (va_Pc [.ref a] (Pre1 D dA a en H.size)) [.ref a] := by
  subst ha
  refine ⟨fun a U g mk q => ?_, fun U hU hW => ⟨rfl, by rw [hU], WW_lt hR hv, by rw [hU]; exact WW_weaken (one_WW hR hv he) (fun _ _ => trivial), KS_warm hW hK⟩⟩
  obtain ⟨q0, q1, q2, q3, q4⟩ := q
  exact ⟨q0, q1, q2, q3, KS_calling q4⟩
theorem pre1x_of {x mi f i : Nat} {en : va_E} (hR : WW D vwCl A0 ad cv ct H) (hv : cv f i) (he : ct f i = en) (hK : KS D dA s) (ha : ad f i = a) (hA : ∀ q, s.heap.size ≤ q → A0 q) (hS : va_S A0 s.heap H locs) (hX : EXT x mi A0 s s.heap) : PreS s H (va_Pc [.ref a] (fun U => Pre1 D dA a en H.size U ∧ EXT x mi (A1 a H.size) U U.heap)) [.ref a] := by
  subst ha
  refine ⟨fun a U g mk q => ?_, fun U hU hW => ⟨rfl, ⟨by rw [hU], WW_lt hR hv, by rw [hU]; exact WW_weaken (one_WW hR hv he) (fun _ _ => trivial), KS_warm hW hK⟩, EXT_at hX hS (fun q h => ?_) hU hW⟩⟩
  · obtain ⟨q0, ⟨q1, q2, q3, q4⟩, q5⟩ := q
    exact ⟨q0, ⟨q1, q2, q3, KS_calling q4⟩, EXT_calling q5⟩
  · rcases h with rfl | h
    · exact WW_A hR hv
    · exact hA q (Nat.le_trans hS.1 h)
theorem kc1 {en : va_E} (hr : va_Run p l e R s m args below meth c H locs cells slots 0 0 (F0 m pc ls st0) rest (Q1 D a en H.size arr) (A1 a H.size)) (ha : A0 a) (hA : ∀ q, H0.size ≤ q → A0 q) (hS : va_S A0 H0 H locs)
    (kk : ∀ (H1 : Heap) (locs1 : List Loc), WW D vwCl A0 (fun _ _ => a) (cvL [(0, 0)]) (fun _ _ => en) H1 → va_S A0 H0 H1 locs1 → W p l e R s m args below meth c H1 locs1 cells slots Q (F0 m (pc + 3) ls rest)) : W p l e R s m args below meth c H locs cells slots Q (F0 m pc ls st0) := by
  have hf : ∀ q, A1 a H.size q → A0 q := fun q h => by
    rcases h with rfl | h
    · exact ha
    · exact hA q (Nat.le_trans hS.1 h)
  refine va_callv hr hS (fun q _ h => hf q h) hf (fun u t H1 locs1 ht hvm hw hB hz hk hS1 => ?_)
  rw [ht] at hB
  exact kk H1 locs1 (WW_weaken hB hf) hS1
theorem ret1_v {en : va_E} (hC : CTX p s m args meth c cc nL own none) (hR : WW D vwCl A0 (fun _ _ => a) (cvL [(0, 0)]) (fun _ _ => en) H) (hS : va_S A0 s.heap H locs) (hdg : decode cc pc = .ok (.return_, 1)) :
    W p l e R s m args below meth c H locs cells slots (MQ below (va_Qv (fun (_ : Unit) => True) (fun _ t => WW D vwCl A0 (fun _ _ => a) (cvL [(0, 0)]) (fun _ _ => en) t.heap) A0) args s cells slots A0) (F0 m pc ls []) :=
  W.vret hC.1 hC.2.1 hC.2.2.2.2.2.1 (fun t ht hW => ⟨⟨(), rfl, trivial, by show WW D vwCl A0 _ _ _ t.heap; rw [ht]; exact hR⟩, hS.F ht⟩) hS.2.2 hdg hC.2.2.2.2.2.2
end C1R

set_option maxHeartbeats 4000000 in
theorem mJxa1e45_init_da8c8 (l : Launch) (D : va_G) (dA : Nat → ClassId) (a sz : Nat) : Met l yJxa1e45_init_da8c8 (WSy yJxa1e45_init_da8c8 cJxa1e45_init_da8c8 1 none) ({ frames := 1, cells := 0, slots := 0, locals := 20 } : Room) (va_Pc [.ref a] (fun U => Pre1 D dA a (.inr (0, [.int 0, .null, .int 0])) sz U)) (Q1 D a (.inr (0, [.int 0, .null, .int 0])) sz) 0 0 (A1 a sz) := by
  refine met_ofI (by decide) (Nat.le_of_ble_eq_true rfl) ?_
  intro p e s m below meth c ls hC hin hB hl
  obtain ⟨rfl, ha0, hR, hK⟩ := hB
  have hA : ∀ q : Nat, s.heap.size ≤ q → A1 a s.heap.size q := fun q h => Or.inr h
  have ha : A1 a s.heap.size a := Or.inl rfl
  have hR := WW_fit (B := A1 a s.heap.size) hR (fun f i h => Or.inl rfl)
  have hS : va_S (A1 a s.heap.size) s.heap s.heap [] := va_S.rf
  unfold Q1
  generalize A1 a s.heap.size = A0 at *
  have hC : CTX p s m _ meth c cJxa1e45_init_da8c8 1 RJxa1e45 none := hC
  obtain ⟨hx, hb, hml, hown, hts, hr, hlk⟩ := id hC
  have hl : lv_has ls 1 [(0, .ref a)] := hl
  refine lv_aload_n hx hb dJxa1e45_init_da8c8_0 rfl (lv_at hl 0 rfl) ?_
  refine W.objInit hx hb hown (hts _ q_82) (hts _ q_63) (hts _ q_64) rfl (by rw [hml]; exact hl.1) rfl dJxa1e45_init_da8c8_1 (Nat.le_of_ble_eq_true rfl) (Nat.le_of_ble_eq_true rfl) ?_
  refine W.eq (g2 := F0 m 4 ls []) rfl ?_
  exact ret1_v hC hR hS dJxa1e45_init_da8c8_4
set_option maxHeartbeats 4000000 in
theorem mJxc12de_init_da8c8 (l : Launch) (D : va_G) (dA : Nat → ClassId) (a sz : Nat) : Met l yJxc12de_init_da8c8 (WSy yJxc12de_init_da8c8 cJxc12de_init_da8c8 1 none) ({ frames := 2, cells := 0, slots := 0, locals := 40 } : Room) (va_Pc [.ref a] (fun U => Pre1 D dA a (.inr (0, [.int 0, .null, .int 0])) sz U)) (Q1 D a (.inr (0, [.int 0, .null, .int 0])) sz) 0 0 (A1 a sz) := by
  refine met_ofI (by decide) (Nat.le_of_ble_eq_true rfl) ?_
  intro p e s m below meth c ls hC hin hB hl
  obtain ⟨rfl, ha0, hR, hK⟩ := hB
  have hA : ∀ q : Nat, s.heap.size ≤ q → A1 a s.heap.size q := fun q h => Or.inr h
  have ha : A1 a s.heap.size a := Or.inl rfl
  have hR := WW_fit (B := A1 a s.heap.size) hR (fun f i h => Or.inl rfl)
  have hS : va_S (A1 a s.heap.size) s.heap s.heap [] := va_S.rf
  unfold Q1
  generalize A1 a s.heap.size = A0 at *
  have hC : CTX p s m _ meth c cJxc12de_init_da8c8 1 RJxc12de none := hC
  obtain ⟨hx, hb, hml, hown, hts, hr, hlk⟩ := id hC
  have hl : lv_has ls 1 [(0, .ref a)] := hl
  refine lv_aload_n hx hb dJxc12de_init_da8c8_0 rfl (lv_at hl 0 rfl) ?_
  refine kc1 (va_runI (As := []) (rest := []) ⟨hx, hb, hml, hown, hts⟩ (mJxa1e45_init_da8c8 l D dA a _) ⟨callB_of 0 hts (gN_of q_81) rfl rfl rfl (hts _ q_36) (hts _ q_79) (by decide +kernel) ⟨Nat.le_of_ble_eq_true rfl, Nat.le_of_ble_eq_true rfl⟩, rfl, hts _ q_80⟩ (pre1_of (f := 0) (i := 0) hR (by decide) rfl hK rfl) rfl rfl hl.1 rfl (lv_room (Nat.le_of_ble_eq_true rfl)) dJxc12de_init_da8c8_1 ⟨Nat.le_of_ble_eq_true rfl, Nat.le_of_ble_eq_true rfl⟩) ha hA hS (fun H locs hR hS => ?_)
  refine lv_aload_n hx hb dJxc12de_init_da8c8_4 rfl (lv_at hl 0 rfl) ?_
  refine lv_iconst (v := 0) hx hb dJxc12de_init_da8c8_5 (by decide) ?_
  refine ww_put (D := D) (ci := 0) (C := RJx4a65c) (T := TJx4a65c) (N := 3) (ty := .int) hx hb hts iuJx4a65c tyJx4a65c tyJx4a65c_ok nmJx4a65c hown hK.1 hR hS (f := 0) (i := 0) (by decide) (fs := [.int 0, .null, .int 0]) rfl rfl 0 (by decide) (hts _ q_87) (fun _ h9 => h9) rfl (by decide +kernel) rfl rfl (Nat.le_of_ble_eq_true rfl) dJxc12de_init_da8c8_6 (fun H locs hR hS => ?_)
  refine ret1_v hC (WW_congr hR (fun _ _ q => q) (fun f i q => ?_)) hS dJxc12de_init_da8c8_9
  have h1 := Prod.mk.inj (List.mem_singleton.mp q)
  obtain ⟨rfl, rfl⟩ := h1
  rfl
set_option maxHeartbeats 4000000 in
theorem mJx4a65c_init_da8c8 (l : Launch) (D : va_G) (dA : Nat → ClassId) (a sz x mi : Nat) : Met l yJx4a65c_init_da8c8 (WSy yJx4a65c_init_da8c8 cJx4a65c_init_da8c8 1 none) ({ frames := 3, cells := 0, slots := 0, locals := 60 } : Room) (va_Pc [.ref a] (fun U => Pre1 D dA a (.inr (0, [.int 0, .null, .int 0])) sz U ∧ EXT x mi (A1 a sz) U U.heap)) (Q1 D a (.inr (0, [.int 0, .ref x, .int 0])) sz) 0 0 (A1 a sz) := by
  refine met_ofI (by decide) (Nat.le_of_ble_eq_true rfl) ?_
  intro p e s m below meth c ls hC hin hB hl
  obtain ⟨⟨rfl, ha0, hR, hK⟩, hX⟩ := hB
  have hA : ∀ q : Nat, s.heap.size ≤ q → A1 a s.heap.size q := fun q h => Or.inr h
  have ha : A1 a s.heap.size a := Or.inl rfl
  have hR := WW_fit (B := A1 a s.heap.size) hR (fun f i h => Or.inl rfl)
  have hS : va_S (A1 a s.heap.size) s.heap s.heap [] := va_S.rf
  unfold Q1
  generalize A1 a s.heap.size = A0 at *
  have hC : CTX p s m _ meth c cJx4a65c_init_da8c8 1 RJx4a65c none := hC
  obtain ⟨hx, hb, hml, hown, hts, hr, hlk⟩ := id hC
  have hl : lv_has ls 1 [(0, .ref a)] := hl
  refine lv_aload_n hx hb dJx4a65c_init_da8c8_0 rfl (lv_at hl 0 rfl) ?_
  refine kc1 (va_runI (As := []) (rest := []) ⟨hx, hb, hml, hown, hts⟩ (mJxc12de_init_da8c8 l D dA a _) ⟨callB_of 0 hts (gN_of q_78) rfl rfl rfl (hts _ q_37) (hts _ q_76) (by decide +kernel) ⟨Nat.le_of_ble_eq_true rfl, Nat.le_of_ble_eq_true rfl⟩, rfl, hts _ q_77⟩ (pre1_of (f := 0) (i := 0) hR (by decide) rfl hK rfl) rfl rfl hl.1 rfl (lv_room (Nat.le_of_ble_eq_true rfl)) dJx4a65c_init_da8c8_1 ⟨Nat.le_of_ble_eq_true rfl, Nat.le_of_ble_eq_true rfl⟩) ha hA hS (fun H locs hR hS => ?_)
  refine lv_aload_n hx hb dJx4a65c_init_da8c8_4 rfl (lv_at hl 0 rfl) ?_
  refine va_gets hx hb hX.1 hS hown (hts _ q_83) (fun _ h => h) dJx4a65c_init_da8c8_5 ?_
  refine ww_put (D := D) (ci := 0) (C := RJx4a65c) (T := TJx4a65c) (N := 3) (ty := .array (.object "java/lang/Object")) hx hb hts iuJx4a65c tyJx4a65c tyJx4a65c_ok nmJx4a65c hown hK.1 hR hS (f := 0) (i := 0) (by decide) (fs := [.int 0, .null, .int 0]) rfl rfl 1 (by decide) (hts _ q_85) (fun _ h9 => h9) rfl (by decide +kernel) rfl rfl (Nat.le_of_ble_eq_true rfl) dJx4a65c_init_da8c8_8 (fun H locs hR hS => ?_)
  refine ret1_v hC (WW_congr hR (fun _ _ q => q) (fun f i q => ?_)) hS dJx4a65c_init_da8c8_11
  have h1 := Prod.mk.inj (List.mem_singleton.mp q)
  obtain ⟨rfl, rfl⟩ := h1
  rfl

