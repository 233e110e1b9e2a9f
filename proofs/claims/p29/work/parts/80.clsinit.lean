/-! THE CONSTRUCTOR of the one that is checked (laid by wip/gen/clsinit.py) -/
theorem q_39 : (Cond.initialized "MarginCourt$Account") ∈ WU := wu_mem (lw_in1 (List.mem_of_getElem? (i := 5) rfl)) rfl
theorem q_40 : (Cond.initialized "MarginCourt$Product") ∈ WU := wu_mem (lw_in1 (List.mem_of_getElem? (i := 6) rfl)) rfl
theorem q_41 : (Cond.initialized "MarginCourt$Kind") ∈ WU := wu_mem (lw_in1 (List.mem_of_getElem? (i := 7) rfl)) rfl
theorem q_62 : (Cond.methodLink "MarginCourt" 1 ⟨"java/lang/Object", "<init>", "()V"⟩) ∈ WU := wu_mem (lw_in1 (List.mem_of_getElem? (i := 28) rfl)) rfl
theorem q_65 : (Cond.classLink "MarginCourt" 9 "MarginCourt$Account") ∈ WU := wu_mem (lw_in1 (List.mem_of_getElem? (i := 31) rfl)) rfl
theorem q_66 : (Cond.arrayOver (.object "MarginCourt$Account")) ∈ NWL := nwl_mem (lw_in1 (List.mem_of_getElem? (i := 32) rfl)) rfl
theorem q_67 : (Cond.classLink "MarginCourt" 15 "MarginCourt$Product") ∈ WU := wu_mem (lw_in1 (List.mem_of_getElem? (i := 33) rfl)) rfl
theorem q_68 : (Cond.arrayOver (.object "MarginCourt$Product")) ∈ NWL := nwl_mem (lw_in1 (List.mem_of_getElem? (i := 34) rfl)) rfl
theorem q_69 : (Cond.classLink "MarginCourt" 21 "MarginCourt$Kind") ∈ WU := wu_mem (lw_in1 (List.mem_of_getElem? (i := 35) rfl)) rfl
theorem q_70 : (Cond.arrayOver (.object "MarginCourt$Kind")) ∈ NWL := nwl_mem (lw_in1 (List.mem_of_getElem? (i := 36) rfl)) rfl
theorem q_71 : (Cond.classLink "MarginCourt" 27 "java/util/ArrayList") ∈ WU := wu_mem (lw_in1 (List.mem_of_getElem? (i := 37) rfl)) rfl
theorem q_72 : (Cond.instantiable "java/util/ArrayList" 3) ∈ WU := wu_mem (lw_in1 (List.mem_of_getElem? (i := 38) rfl)) rfl
theorem q_73 : (Cond.methodLink "MarginCourt" 29 ⟨"java/util/ArrayList", "<init>", "()V"⟩) ∈ WU := wu_mem (lw_in1 (List.mem_of_getElem? (i := 39) rfl)) rfl
theorem q_74 : (Cond.instanceMethod ⟨"java/util/ArrayList", "<init>", "()V"⟩) ∈ WU := wu_mem (lw_in1 (List.mem_of_getElem? (i := 40) rfl)) rfl
theorem q_75 : (Cond.code ⟨"java/util/ArrayList", "<init>", "()V"⟩ prog_22_method_2_code 1 none) ∈ WU := wu_mem (lw_in1 (List.mem_of_getElem? (i := 41) rfl)) rfl
theorem q_97 : (Cond.instantiable "MarginCourt$Account" 8) ∈ WU := wu_mem (lw_in1 (List.mem_of_getElem? (i := 63) rfl)) rfl
theorem q_98 : (Cond.methodLinkNest "MarginCourt" 41 ⟨"MarginCourt$Account", "<init>", "()V"⟩ "MarginCourt") ∈ NWL := nwl_mem (lw_in1 (List.mem_of_getElem? (i := 64) rfl)) rfl
theorem q_99 : (Cond.instanceMethod ⟨"MarginCourt$Account", "<init>", "()V"⟩) ∈ WU := wu_mem (lw_in1 (List.mem_of_getElem? (i := 65) rfl)) rfl
theorem q_100 : (Cond.code ⟨"MarginCourt$Account", "<init>", "()V"⟩ prog_2_method_1_code 1 none) ∈ WU := wu_mem (lw_in1 (List.mem_of_getElem? (i := 66) rfl)) rfl
theorem q_133 : (Cond.instantiable "MarginCourt$Product" 3) ∈ WU := wu_mem (lw_in1 (List.mem_of_getElem? (i := 99) rfl)) rfl
theorem q_134 : (Cond.methodLinkNest "MarginCourt" 42 ⟨"MarginCourt$Product", "<init>", "()V"⟩ "MarginCourt") ∈ NWL := nwl_mem (lw_in1 (List.mem_of_getElem? (i := 100) rfl)) rfl
theorem q_135 : (Cond.instanceMethod ⟨"MarginCourt$Product", "<init>", "()V"⟩) ∈ WU := wu_mem (lw_in1 (List.mem_of_getElem? (i := 101) rfl)) rfl
theorem q_136 : (Cond.code ⟨"MarginCourt$Product", "<init>", "()V"⟩ prog_5_method_1_code 1 none) ∈ WU := wu_mem (lw_in1 (List.mem_of_getElem? (i := 102) rfl)) rfl
theorem q_150 : (Cond.instantiable "MarginCourt$Kind" 2) ∈ WU := wu_mem (lw_in1 (List.mem_of_getElem? (i := 116) rfl)) rfl
theorem q_151 : (Cond.methodLinkNest "MarginCourt" 43 ⟨"MarginCourt$Kind", "<init>", "()V"⟩ "MarginCourt") ∈ NWL := nwl_mem (lw_in1 (List.mem_of_getElem? (i := 117) rfl)) rfl
theorem q_152 : (Cond.instanceMethod ⟨"MarginCourt$Kind", "<init>", "()V"⟩) ∈ WU := wu_mem (lw_in1 (List.mem_of_getElem? (i := 118) rfl)) rfl
theorem q_153 : (Cond.code ⟨"MarginCourt$Kind", "<init>", "()V"⟩ prog_3_method_1_code 2 none) ∈ WU := wu_mem (lw_in1 (List.mem_of_getElem? (i := 119) rfl)) rfl
theorem WW_ad {D : va_G} {cl : List vw_C} {A : Nat → Prop} {ad ad' : Nat → Nat → Nat} {cv : Nat → Nat → Prop} {ct : Nat → Nat → va_E} {H : Heap} (h : WW D cl A ad cv ct H) (e : ∀ f i, cv f i → ad' f i = ad f i) : WW D cl A ad' cv ct H := by
  obtain ⟨⟨L, fn, hP, hD, hc⟩, hi⟩ := h
  exact ⟨⟨L, fn, hP, hD, fun f i q => by rw [e f i q]; exact hc f i q⟩, fun f i g j q1 q2 q3 => hi f i g j q1 q2 (by rw [← e f i q1, ← e g j q2]; exact q3)⟩
def adX (x : Nat) (ad : Nat → Nat → Nat) : Nat → Nat → Nat := fun f i => if f = 13 ∨ f = 15 then x else ad f i
theorem cvC_0 {f i : Nat} (h : cvC sig0 f i) : f ≠ 13 ∧ f ≠ 15 := by
  refine ⟨fun e => ?_, fun e => ?_⟩
  · subst e
    exact absurd h.2 (Nat.lt_irrefl 0)
  · subst e
    exact absurd h.2 (Nat.lt_irrefl 0)
theorem ret_cls {p : Program} {l : Launch} {e : Env} {R : Room} {s : State} {m : MethodId} {args : Array Value} {below : List Frame} {meth : Method} {c : Code} {H : Heap} {locs : List Loc} {cells slots : Nat} {cc : ByteArray} {pc nL : Nat} {own : String} {ls : Array Slot} {D : va_G} {dA : Nat → ClassId} {A0 : Nat → Prop} {ad : Nat → Nat → Nat} {L : List (Nat × Nat)} {ct : Nat → Nat → va_E} {a x : Nat} (hC : CTX p s m args meth c cc nL own none) (hR : WW D vwCl A0 ad (cvL L) ct H) (h00 : ad 0 0 = a) (hL : ∀ f i, cvC sig0 f i → (f, i) ∈ L) (hct : ∀ f i, cvC sig0 f i → vE D (ct f i) (ctC dA (adX x ad) sig0 f i)) (hS : va_S A0 s.heap H locs) (hdg : decode cc pc = .ok (.return_, 1)) :
    W p l e R s m args below meth c H locs cells slots (MQ below (va_Qv (fun (u : Nat → Nat → Nat) => u 0 0 = a ∧ LX u sig0 x) (fun u t => WW D vwCl A0 u (cvC sig0) ((fun u => ctC dA u sig0) u) t.heap) A0) args s cells slots A0) (F0 m pc ls []) := by
  refine retn_v (u := adX x ad) (cv' := cvC sig0) (ctF := fun u => ctC dA u sig0) (cv := cvC sig0) (ct := ct) hC ⟨?_, fun _ => rfl, fun _ => rfl⟩ ?_ (fun f i h => h) hct hS hdg
  · show (if 0 = 13 ∨ 0 = 15 then x else ad 0 0) = a
    rw [if_neg (by decide)]
    exact h00
  · refine WW_ad (WW_congr hR hL (fun _ _ _ => rfl)) (fun f i h => ?_)
    have h1 := cvC_0 h
    exact if_neg (fun q => q.elim h1.1 h1.2)
abbrev f0NC : List Value := [.null, .null, .null, .null, .null, .null, .int 0, .long 0]
set_option maxHeartbeats 16000000 in
set_option maxRecDepth 100000 in
theorem mX5_init (l : Launch) (D : va_G) (dA : Nat → ClassId) (a sz x mi : Nat) : Met l yX5_init (WSy yX5_init cX5_init 2 none) ({ frames := 4, cells := 36, slots := 133, locals := 90 } : Room) (va_Pc [.ref a] (fun U => Pre1 D dA a (.inr (6, f0NC)) sz U ∧ EXT x mi (A1 a sz) U U.heap)) (va_Qv (fun (u : Nat → Nat → Nat) => u 0 0 = a ∧ LX u sig0 x) (fun u t => WW D vwCl (A1 a sz) u (cvC sig0) ((fun u => ctC dA u sig0) u) t.heap) (A1 a sz)) 36 133 (A1 a sz) := by
  refine met_ofI (by decide) (Nat.le_of_ble_eq_true rfl) ?_
  intro p e s m below meth c ls hC hin hB hl
  obtain ⟨⟨rfl, ha0, hR, hK⟩, hX⟩ := hB
  have hA : ∀ q : Nat, s.heap.size ≤ q → A1 a s.heap.size q := fun q h => Or.inr h
  have hR := WW_fit (B := A1 a s.heap.size) hR (fun f i h => Or.inl rfl)
  have hS : va_S (A1 a s.heap.size) s.heap s.heap [] := va_S.rf
  generalize A1 a s.heap.size = A0 at hA hR hS hX ⊢
  have hA0 := hA
  have hC : CTX p s m _ meth c cX5_init 2 RX5 none := hC
  obtain ⟨hx, hb, hml, hown, hts, hr, hlk⟩ := id hC
  have hl : lv_has ls 2 [(0, .ref a)] := hl
  have hR : WW D vwCl A0 _ (cvL [(0, 0)]) (fun _ _ => .inr (6, f0NC)) s.heap := hR
  refine lv_aload_n hx hb dX5_init_0 rfl (lv_at hl 0 rfl) ?_
  refine W.objInit hx hb hown (hts _ q_62) (hts _ q_63) (hts _ q_64) rfl (by rw [hml]; exact hl.1) rfl dX5_init_1 (Nat.le_of_ble_eq_true rfl) (Nat.le_of_ble_eq_true rfl) ?_
  refine W.eq (g2 := F0 m 4 ls []) rfl ?_
  refine lv_aload_n hx hb dX5_init_4 rfl (lv_at hl 0 rfl) ?_
  refine lv_iconst (v := 5) hx hb dX5_init_5 (by decide) ?_
  refine cn_r 1 0 3 hx hb hown (hts _ q_65) (hK.2 _ q_66) (fun _ => rfl) hK.1 hR hS hA 5 (by decide) rfl (Nat.le_of_ble_eq_true rfl) (Nat.le_of_ble_eq_true rfl) (Nat.le_of_ble_eq_true rfl) (by decide) dX5_init_6 (fun q1 H hAq hR hS => ?_)
  refine ww_putF (D := D) (ci := 6) (C := RX5) (T := TX5) (N := 8) (ty := .array (.object "MarginCourt$Account")) hx hb hts iuX5 tyX5 tyX5_ok nmX5 hown hK.1 hR hS (f := 0) (i := 0) (by decide) (fs := [.null, .null, .null, .null, .null, .null, .int 0, .long 0]) rfl rfl 0 (by decide) (hts _ q_164) (fun _ h9 => h9) rfl hin rfl (by decide +kernel) rfl rfl (Nat.le_of_ble_eq_true rfl) dX5_init_9 (fun H locs hR hS => ?_)
  have hR : WW D vwCl A0 _ (cvL [(1, 0), (0, 0)]) (ctU _ 0 0 (.inr (6, [.ref q1, .null, .null, .null, .null, .null, .int 0, .long 0]))) H := hR
  refine lv_aload_n hx hb dX5_init_12 rfl (lv_at hl 0 rfl) ?_
  refine lv_iconst (v := 3) hx hb dX5_init_13 (by decide) ?_
  refine cn_r 6 0 4 hx hb hown (hts _ q_67) (hK.2 _ q_68) (fun _ => rfl) hK.1 hR hS hA 3 (by decide) rfl (Nat.le_of_ble_eq_true rfl) (Nat.le_of_ble_eq_true rfl) (Nat.le_of_ble_eq_true rfl) (by decide) dX5_init_14 (fun q2 H hAq hR hS => ?_)
  refine ww_putF (D := D) (ci := 6) (C := RX5) (T := TX5) (N := 8) (ty := .array (.object "MarginCourt$Product")) hx hb hts iuX5 tyX5 tyX5_ok nmX5 hown hK.1 hR hS (f := 0) (i := 0) (by decide) (fs := [.ref q1, .null, .null, .null, .null, .null, .int 0, .long 0]) rfl rfl 1 (by decide) (hts _ q_165) (fun _ h9 => h9) rfl hin rfl (by decide +kernel) rfl rfl (Nat.le_of_ble_eq_true rfl) dX5_init_17 (fun H locs hR hS => ?_)
  have hR : WW D vwCl A0 _ (cvL [(6, 0), (1, 0), (0, 0)]) (ctU _ 0 0 (.inr (6, [.ref q1, .ref q2, .null, .null, .null, .null, .int 0, .long 0]))) H := hR
  refine lv_aload_n hx hb dX5_init_20 rfl (lv_at hl 0 rfl) ?_
  refine lv_iconst (v := 2) hx hb dX5_init_21 (by decide) ?_
  refine cn_r 9 0 5 hx hb hown (hts _ q_69) (hK.2 _ q_70) (fun _ => rfl) hK.1 hR hS hA 2 (by decide) rfl (Nat.le_of_ble_eq_true rfl) (Nat.le_of_ble_eq_true rfl) (Nat.le_of_ble_eq_true rfl) (by decide) dX5_init_22 (fun q3 H hAq hR hS => ?_)
  refine ww_putF (D := D) (ci := 6) (C := RX5) (T := TX5) (N := 8) (ty := .array (.object "MarginCourt$Kind")) hx hb hts iuX5 tyX5 tyX5_ok nmX5 hown hK.1 hR hS (f := 0) (i := 0) (by decide) (fs := [.ref q1, .ref q2, .null, .null, .null, .null, .int 0, .long 0]) rfl rfl 2 (by decide) (hts _ q_166) (fun _ h9 => h9) rfl hin rfl (by decide +kernel) rfl rfl (Nat.le_of_ble_eq_true rfl) dX5_init_25 (fun H locs hR hS => ?_)
  have hR : WW D vwCl A0 _ (cvL [(9, 0), (6, 0), (1, 0), (0, 0)]) (ctU _ 0 0 (.inr (6, [.ref q1, .ref q2, .ref q3, .null, .null, .null, .int 0, .long 0]))) H := hR
  refine lv_aload_n hx hb dX5_init_28 rfl (lv_at hl 0 rfl) ?_
  refine cn_o 12 0 (C := RJx4a65c) (T := TJx4a65c) (N := 3) (ci := 0) (fs := [.int 0, .null, .int 0]) hx hb hts iuJx4a65c tyJx4a65c tyJx4a65c_ok hown (hts _ q_71) (hts _ q_72) (hts _ q_38) hK.1 hR hS hA rfl (by decide) (Nat.le_of_ble_eq_true rfl) (Nat.le_of_ble_eq_true rfl) (by decide) dX5_init_29 (fun q4 H hAq hR hS => ?_)
  refine lv_dup hx hb dX5_init_32 rfl ?_
  refine kcL (f := 12) (i := 0) (va_runI (As := []) (rest := [.ref q4, .ref a]) ⟨hx, hb, hml, hown, hts⟩ (mJx4a65c_init_da8c8 l D dA q4 _ x mi) ⟨callB_of 0 hts (gN_of q_75) rfl rfl rfl (hts _ q_38) (hts _ q_73) (by decide +kernel) ⟨Nat.le_of_ble_eq_true rfl, Nat.le_of_ble_eq_true rfl⟩, rfl, hts _ q_74⟩ (pre1x_of (f := 12) (i := 0) hR (by decide) rfl hK rfl hA0 hS hX) rfl rfl hl.1 rfl (lv_room (Nat.le_of_ble_eq_true rfl)) dX5_init_33 ⟨Nat.le_of_ble_eq_true rfl, Nat.le_of_ble_eq_true rfl⟩) hR hA hS (by decide) rfl (fun H locs hR hS => ?_)
  refine ww_putF (D := D) (ci := 6) (C := RX5) (T := TX5) (N := 8) (ty := .object "java/util/ArrayList") hx hb hts iuX5 tyX5 tyX5_ok nmX5 hown hK.1 hR hS (f := 0) (i := 0) (by decide) (fs := [.ref q1, .ref q2, .ref q3, .null, .null, .null, .int 0, .long 0]) rfl rfl 3 (by decide) (hts _ q_167) (fun _ h9 => h9) rfl hin rfl (by decide +kernel) rfl rfl (Nat.le_of_ble_eq_true rfl) dX5_init_36 (fun H locs hR hS => ?_)
  have hR : WW D vwCl A0 _ (cvL [(12, 0), (9, 0), (6, 0), (1, 0), (0, 0)]) (ctU _ 0 0 (.inr (6, [.ref q1, .ref q2, .ref q3, .ref q4, .null, .null, .int 0, .long 0]))) H := hR
  refine lv_aload_n hx hb dX5_init_39 rfl (lv_at hl 0 rfl) ?_
  refine cn_o 14 0 (C := RJx4a65c) (T := TJx4a65c) (N := 3) (ci := 0) (fs := [.int 0, .null, .int 0]) hx hb hts iuJx4a65c tyJx4a65c tyJx4a65c_ok hown (hts _ q_71) (hts _ q_72) (hts _ q_38) hK.1 hR hS hA rfl (by decide) (Nat.le_of_ble_eq_true rfl) (Nat.le_of_ble_eq_true rfl) (by decide) dX5_init_40 (fun q5 H hAq hR hS => ?_)
  refine lv_dup hx hb dX5_init_43 rfl ?_
  refine kcL (f := 14) (i := 0) (va_runI (As := []) (rest := [.ref q5, .ref a]) ⟨hx, hb, hml, hown, hts⟩ (mJx4a65c_init_da8c8 l D dA q5 _ x mi) ⟨callB_of 0 hts (gN_of q_75) rfl rfl rfl (hts _ q_38) (hts _ q_73) (by decide +kernel) ⟨Nat.le_of_ble_eq_true rfl, Nat.le_of_ble_eq_true rfl⟩, rfl, hts _ q_74⟩ (pre1x_of (f := 14) (i := 0) hR (by decide) rfl hK rfl hA0 hS hX) rfl rfl hl.1 rfl (lv_room (Nat.le_of_ble_eq_true rfl)) dX5_init_44 ⟨Nat.le_of_ble_eq_true rfl, Nat.le_of_ble_eq_true rfl⟩) hR hA hS (by decide) rfl (fun H locs hR hS => ?_)
  refine ww_putF (D := D) (ci := 6) (C := RX5) (T := TX5) (N := 8) (ty := .object "java/util/ArrayList") hx hb hts iuX5 tyX5 tyX5_ok nmX5 hown hK.1 hR hS (f := 0) (i := 0) (by decide) (fs := [.ref q1, .ref q2, .ref q3, .ref q4, .null, .null, .int 0, .long 0]) rfl rfl 4 (by decide) (hts _ q_168) (fun _ h9 => h9) rfl hin rfl (by decide +kernel) rfl rfl (Nat.le_of_ble_eq_true rfl) dX5_init_47 (fun H locs hR hS => ?_)
  have hR : WW D vwCl A0 _ (cvL [(14, 0), (12, 0), (9, 0), (6, 0), (1, 0), (0, 0)]) (ctU _ 0 0 (.inr (6, [.ref q1, .ref q2, .ref q3, .ref q4, .ref q5, .null, .int 0, .long 0]))) H := hR
  refine lv_aload_n hx hb dX5_init_50 rfl (lv_at hl 0 rfl) ?_
  refine lv_iconst (v := 4) hx hb dX5_init_51 (by decide) ?_
  refine cn_l 16 0 hx hb (hts _ q_131) hK.1 hR hS hA 4 (by decide) rfl (Nat.le_of_ble_eq_true rfl) (Nat.le_of_ble_eq_true rfl) (Nat.le_of_ble_eq_true rfl) (by decide) dX5_init_52 (fun q6 H hAq hR hS => ?_)
  refine ww_putF (D := D) (ci := 6) (C := RX5) (T := TX5) (N := 8) (ty := .array .long) hx hb hts iuX5 tyX5 tyX5_ok nmX5 hown hK.1 hR hS (f := 0) (i := 0) (by decide) (fs := [.ref q1, .ref q2, .ref q3, .ref q4, .ref q5, .null, .int 0, .long 0]) rfl rfl 5 (by decide) (hts _ q_169) (fun _ h9 => h9) rfl hin rfl (by decide +kernel) rfl rfl (Nat.le_of_ble_eq_true rfl) dX5_init_54 (fun H locs hR hS => ?_)
  have hR : WW D vwCl A0 _ (cvL [(16, 0), (14, 0), (12, 0), (9, 0), (6, 0), (1, 0), (0, 0)]) (ctU _ 0 0 (.inr (6, [.ref q1, .ref q2, .ref q3, .ref q4, .ref q5, .ref q6, .int 0, .long 0]))) H := hR
  refine lv_iconst (v := 0) hx hb dX5_init_57 (by decide) ?_
  refine lv_istore_n (lv' := [(1, .int 0), (0, .ref a)]) hx hb dX5_init_58 rfl hl (by decide) rfl (fun ls hl => ?_)
  refine lv_iload_n hx hb dX5_init_59 rfl (lv_at hl 0 rfl) ?_
  refine lv_iconst (v := 5) hx hb dX5_init_60 (by decide) ?_
  refine lv_icmp_ge (tgt := 83) hx hb dX5_init_61 (by decide) (fun c7 => absurd c7 (by decide)) (fun c7 => ?_)
  refine lv_aload_n hx hb dX5_init_64 rfl (lv_at hl 1 rfl) ?_
  refine va_get (D := D) (ci := 6) (C := RX5) (T := TX5) (N := 8) hx hb hts iuX5 hown hK.1 (WW_one hR (f := 0) (i := 0) (by decide)) 0 (fs := [.ref q1, .ref q2, .ref q3, .ref q4, .ref q5, .ref q6, .int 0, .long 0]) rfl rfl 0 (by decide) (hts _ q_164) (fun _ h9 => h9) rfl dX5_init_65 ?_
  refine lv_iload_n hx hb dX5_init_68 rfl (lv_at hl 0 rfl) ?_
  refine cn_o 2 0 (C := RX0) (T := TX0) (N := 8) (ci := 1) (fs := [.long 0, .long 0, .long 0, .int 0, .int 0, .null, .null, .null]) hx hb hts iuX0 tyX0 tyX0_ok hown (hts _ q_65) (hts _ q_97) (hts _ q_39) hK.1 hR hS hA rfl (by decide) (Nat.le_of_ble_eq_true rfl) (Nat.le_of_ble_eq_true rfl) (by decide) dX5_init_69 (fun q8 H hAq hR hS => ?_)
  refine lv_dup hx hb dX5_init_72 rfl ?_
  refine kcN (f := 2) (i := 0) [((2, 0), (0, 0)), ((3, 0), (1, 0)), ((4, 0), (2, 0)), ((5, 0), (3, 0))] [(5, 0), (4, 0), (3, 0), (2, 0), (16, 0), (14, 0), (12, 0), (9, 0), (6, 0), (1, 0), (0, 0)] (va_runIN (As := []) (rest := [.ref q8, .int 0, .ref q1]) ⟨hx, hb, hml, hown, hts⟩ (mX0_init l D dA q8 _) ⟨va_cnB 0 hts (gN_of q_100) rfl rfl rfl (hK.2 _ q_98) (hts _ q_39) (by decide +kernel) ⟨Nat.le_of_ble_eq_true rfl, Nat.le_of_ble_eq_true rfl⟩, rfl, hts _ q_99⟩ (pre1_of (f := 2) (i := 0) hR (by decide) rfl hK rfl) rfl rfl hl.1 rfl (lv_room (Nat.le_of_ble_eq_true rfl)) dX5_init_73 ⟨Nat.le_of_ble_eq_true rfl, Nat.le_of_ble_eq_true rfl⟩) hR hA hS (by decide) rfl (by decide) (by decide) (by decide) (by decide) (fun u9 H locs hu9 hR hS => ?_)
  subst hu9
  refine ww_astM hx hb hK.1 hR hS 3 (f := 1) (j := 0) (by decide) (cA := dA 3) (n := 5) (fa := fun _ => none) rfl rfl (self_any hK hR (f := 2) (i := 0) (by decide) rfl rfl) (show ¬ ((0 : Int32) < 0 ∨ 5 ≤ (0 : Int32).toNatClampNeg) by decide) dX5_init_76 (fun H locs hR hS => ?_)
  have hR : WW D vwCl A0 _ (cvL [(5, 0), (4, 0), (3, 0), (2, 0), (16, 0), (14, 0), (12, 0), (9, 0), (6, 0), (1, 0), (0, 0)]) (ctU _ 1 0 (.inl (dA 3, 5, rfs (va_up (fun _ => none) 0 (some (u9 0 0)))))) H := hR
  refine lv_iinc (v := 1) (lv' := [(1, .int 1), (0, .ref a)]) hx hb dX5_init_77 hl (k := 0) rfl (by decide) (by decide) rfl (fun ls hl => ?_)
  refine lv_goto (tgt := 59) hx hb dX5_init_80 (by decide) ?_
  refine lv_iload_n hx hb dX5_init_59 rfl (lv_at hl 0 rfl) ?_
  refine lv_iconst (v := 5) hx hb dX5_init_60 (by decide) ?_
  refine lv_icmp_ge (tgt := 83) hx hb dX5_init_61 (by decide) (fun c10 => absurd c10 (by decide)) (fun c10 => ?_)
  refine lv_aload_n hx hb dX5_init_64 rfl (lv_at hl 1 rfl) ?_
  refine va_get (D := D) (ci := 6) (C := RX5) (T := TX5) (N := 8) hx hb hts iuX5 hown hK.1 (WW_one hR (f := 0) (i := 0) (by decide)) 0 (fs := [.ref q1, .ref q2, .ref q3, .ref q4, .ref q5, .ref q6, .int 0, .long 0]) rfl rfl 0 (by decide) (hts _ q_164) (fun _ h9 => h9) rfl dX5_init_65 ?_
  refine lv_iload_n hx hb dX5_init_68 rfl (lv_at hl 0 rfl) ?_
  refine cn_o 2 1 (C := RX0) (T := TX0) (N := 8) (ci := 1) (fs := [.long 0, .long 0, .long 0, .int 0, .int 0, .null, .null, .null]) hx hb hts iuX0 tyX0 tyX0_ok hown (hts _ q_65) (hts _ q_97) (hts _ q_39) hK.1 hR hS hA rfl (by decide) (Nat.le_of_ble_eq_true rfl) (Nat.le_of_ble_eq_true rfl) (by decide) dX5_init_69 (fun q11 H hAq hR hS => ?_)
  refine lv_dup hx hb dX5_init_72 rfl ?_
  refine kcN (f := 2) (i := 1) [((2, 1), (0, 0)), ((3, 1), (1, 0)), ((4, 1), (2, 0)), ((5, 1), (3, 0))] [(5, 1), (4, 1), (3, 1), (2, 1), (5, 0), (4, 0), (3, 0), (2, 0), (16, 0), (14, 0), (12, 0), (9, 0), (6, 0), (1, 0), (0, 0)] (va_runIN (As := []) (rest := [.ref q11, .int 1, .ref q1]) ⟨hx, hb, hml, hown, hts⟩ (mX0_init l D dA q11 _) ⟨va_cnB 0 hts (gN_of q_100) rfl rfl rfl (hK.2 _ q_98) (hts _ q_39) (by decide +kernel) ⟨Nat.le_of_ble_eq_true rfl, Nat.le_of_ble_eq_true rfl⟩, rfl, hts _ q_99⟩ (pre1_of (f := 2) (i := 1) hR (by decide) rfl hK rfl) rfl rfl hl.1 rfl (lv_room (Nat.le_of_ble_eq_true rfl)) dX5_init_73 ⟨Nat.le_of_ble_eq_true rfl, Nat.le_of_ble_eq_true rfl⟩) hR hA hS (by decide) rfl (by decide) (by decide) (by decide) (by decide) (fun u12 H locs hu12 hR hS => ?_)
  subst hu12
  refine ww_astM hx hb hK.1 hR hS 3 (f := 1) (j := 0) (by decide) (cA := dA 3) (n := 5) (fa := va_up (fun _ => none) 0 (some (u9 0 0))) rfl rfl (self_any hK hR (f := 2) (i := 1) (by decide) rfl rfl) (show ¬ ((1 : Int32) < 0 ∨ 5 ≤ (1 : Int32).toNatClampNeg) by decide) dX5_init_76 (fun H locs hR hS => ?_)
  have hR : WW D vwCl A0 _ (cvL [(5, 1), (4, 1), (3, 1), (2, 1), (5, 0), (4, 0), (3, 0), (2, 0), (16, 0), (14, 0), (12, 0), (9, 0), (6, 0), (1, 0), (0, 0)]) (ctU _ 1 0 (.inl (dA 3, 5, rfs (va_up (va_up (fun _ => none) 0 (some (u9 0 0))) 1 (some (u12 0 0)))))) H := hR
  refine lv_iinc (v := 2) (lv' := [(1, .int 2), (0, .ref a)]) hx hb dX5_init_77 hl (k := 0) rfl (by decide) (by decide) rfl (fun ls hl => ?_)
  refine lv_goto (tgt := 59) hx hb dX5_init_80 (by decide) ?_
  refine lv_iload_n hx hb dX5_init_59 rfl (lv_at hl 0 rfl) ?_
  refine lv_iconst (v := 5) hx hb dX5_init_60 (by decide) ?_
  refine lv_icmp_ge (tgt := 83) hx hb dX5_init_61 (by decide) (fun c13 => absurd c13 (by decide)) (fun c13 => ?_)
  refine lv_aload_n hx hb dX5_init_64 rfl (lv_at hl 1 rfl) ?_
  refine va_get (D := D) (ci := 6) (C := RX5) (T := TX5) (N := 8) hx hb hts iuX5 hown hK.1 (WW_one hR (f := 0) (i := 0) (by decide)) 0 (fs := [.ref q1, .ref q2, .ref q3, .ref q4, .ref q5, .ref q6, .int 0, .long 0]) rfl rfl 0 (by decide) (hts _ q_164) (fun _ h9 => h9) rfl dX5_init_65 ?_
  refine lv_iload_n hx hb dX5_init_68 rfl (lv_at hl 0 rfl) ?_
  refine cn_o 2 2 (C := RX0) (T := TX0) (N := 8) (ci := 1) (fs := [.long 0, .long 0, .long 0, .int 0, .int 0, .null, .null, .null]) hx hb hts iuX0 tyX0 tyX0_ok hown (hts _ q_65) (hts _ q_97) (hts _ q_39) hK.1 hR hS hA rfl (by decide) (Nat.le_of_ble_eq_true rfl) (Nat.le_of_ble_eq_true rfl) (by decide) dX5_init_69 (fun q14 H hAq hR hS => ?_)
  refine lv_dup hx hb dX5_init_72 rfl ?_
  refine kcN (f := 2) (i := 2) [((2, 2), (0, 0)), ((3, 2), (1, 0)), ((4, 2), (2, 0)), ((5, 2), (3, 0))] [(5, 2), (4, 2), (3, 2), (2, 2), (5, 1), (4, 1), (3, 1), (2, 1), (5, 0), (4, 0), (3, 0), (2, 0), (16, 0), (14, 0), (12, 0), (9, 0), (6, 0), (1, 0), (0, 0)] (va_runIN (As := []) (rest := [.ref q14, .int 2, .ref q1]) ⟨hx, hb, hml, hown, hts⟩ (mX0_init l D dA q14 _) ⟨va_cnB 0 hts (gN_of q_100) rfl rfl rfl (hK.2 _ q_98) (hts _ q_39) (by decide +kernel) ⟨Nat.le_of_ble_eq_true rfl, Nat.le_of_ble_eq_true rfl⟩, rfl, hts _ q_99⟩ (pre1_of (f := 2) (i := 2) hR (by decide) rfl hK rfl) rfl rfl hl.1 rfl (lv_room (Nat.le_of_ble_eq_true rfl)) dX5_init_73 ⟨Nat.le_of_ble_eq_true rfl, Nat.le_of_ble_eq_true rfl⟩) hR hA hS (by decide) rfl (by decide) (by decide) (by decide) (by decide) (fun u15 H locs hu15 hR hS => ?_)
  subst hu15
  refine ww_astM hx hb hK.1 hR hS 3 (f := 1) (j := 0) (by decide) (cA := dA 3) (n := 5) (fa := va_up (va_up (fun _ => none) 0 (some (u9 0 0))) 1 (some (u12 0 0))) rfl rfl (self_any hK hR (f := 2) (i := 2) (by decide) rfl rfl) (show ¬ ((2 : Int32) < 0 ∨ 5 ≤ (2 : Int32).toNatClampNeg) by decide) dX5_init_76 (fun H locs hR hS => ?_)
  have hR : WW D vwCl A0 _ (cvL [(5, 2), (4, 2), (3, 2), (2, 2), (5, 1), (4, 1), (3, 1), (2, 1), (5, 0), (4, 0), (3, 0), (2, 0), (16, 0), (14, 0), (12, 0), (9, 0), (6, 0), (1, 0), (0, 0)]) (ctU _ 1 0 (.inl (dA 3, 5, rfs (va_up (va_up (va_up (fun _ => none) 0 (some (u9 0 0))) 1 (some (u12 0 0))) 2 (some (u15 0 0)))))) H := hR
  refine lv_iinc (v := 3) (lv' := [(1, .int 3), (0, .ref a)]) hx hb dX5_init_77 hl (k := 0) rfl (by decide) (by decide) rfl (fun ls hl => ?_)
  refine lv_goto (tgt := 59) hx hb dX5_init_80 (by decide) ?_
  refine lv_iload_n hx hb dX5_init_59 rfl (lv_at hl 0 rfl) ?_
  refine lv_iconst (v := 5) hx hb dX5_init_60 (by decide) ?_
  refine lv_icmp_ge (tgt := 83) hx hb dX5_init_61 (by decide) (fun c16 => absurd c16 (by decide)) (fun c16 => ?_)
  refine lv_aload_n hx hb dX5_init_64 rfl (lv_at hl 1 rfl) ?_
  refine va_get (D := D) (ci := 6) (C := RX5) (T := TX5) (N := 8) hx hb hts iuX5 hown hK.1 (WW_one hR (f := 0) (i := 0) (by decide)) 0 (fs := [.ref q1, .ref q2, .ref q3, .ref q4, .ref q5, .ref q6, .int 0, .long 0]) rfl rfl 0 (by decide) (hts _ q_164) (fun _ h9 => h9) rfl dX5_init_65 ?_
  refine lv_iload_n hx hb dX5_init_68 rfl (lv_at hl 0 rfl) ?_
  refine cn_o 2 3 (C := RX0) (T := TX0) (N := 8) (ci := 1) (fs := [.long 0, .long 0, .long 0, .int 0, .int 0, .null, .null, .null]) hx hb hts iuX0 tyX0 tyX0_ok hown (hts _ q_65) (hts _ q_97) (hts _ q_39) hK.1 hR hS hA rfl (by decide) (Nat.le_of_ble_eq_true rfl) (Nat.le_of_ble_eq_true rfl) (by decide) dX5_init_69 (fun q17 H hAq hR hS => ?_)
  refine lv_dup hx hb dX5_init_72 rfl ?_
  refine kcN (f := 2) (i := 3) [((2, 3), (0, 0)), ((3, 3), (1, 0)), ((4, 3), (2, 0)), ((5, 3), (3, 0))] [(5, 3), (4, 3), (3, 3), (2, 3), (5, 2), (4, 2), (3, 2), (2, 2), (5, 1), (4, 1), (3, 1), (2, 1), (5, 0), (4, 0), (3, 0), (2, 0), (16, 0), (14, 0), (12, 0), (9, 0), (6, 0), (1, 0), (0, 0)] (va_runIN (As := []) (rest := [.ref q17, .int 3, .ref q1]) ⟨hx, hb, hml, hown, hts⟩ (mX0_init l D dA q17 _) ⟨va_cnB 0 hts (gN_of q_100) rfl rfl rfl (hK.2 _ q_98) (hts _ q_39) (by decide +kernel) ⟨Nat.le_of_ble_eq_true rfl, Nat.le_of_ble_eq_true rfl⟩, rfl, hts _ q_99⟩ (pre1_of (f := 2) (i := 3) hR (by decide) rfl hK rfl) rfl rfl hl.1 rfl (lv_room (Nat.le_of_ble_eq_true rfl)) dX5_init_73 ⟨Nat.le_of_ble_eq_true rfl, Nat.le_of_ble_eq_true rfl⟩) hR hA hS (by decide) rfl (by decide) (by decide) (by decide) (by decide) (fun u18 H locs hu18 hR hS => ?_)
  subst hu18
  refine ww_astM hx hb hK.1 hR hS 3 (f := 1) (j := 0) (by decide) (cA := dA 3) (n := 5) (fa := va_up (va_up (va_up (fun _ => none) 0 (some (u9 0 0))) 1 (some (u12 0 0))) 2 (some (u15 0 0))) rfl rfl (self_any hK hR (f := 2) (i := 3) (by decide) rfl rfl) (show ¬ ((3 : Int32) < 0 ∨ 5 ≤ (3 : Int32).toNatClampNeg) by decide) dX5_init_76 (fun H locs hR hS => ?_)
  have hR : WW D vwCl A0 _ (cvL [(5, 3), (4, 3), (3, 3), (2, 3), (5, 2), (4, 2), (3, 2), (2, 2), (5, 1), (4, 1), (3, 1), (2, 1), (5, 0), (4, 0), (3, 0), (2, 0), (16, 0), (14, 0), (12, 0), (9, 0), (6, 0), (1, 0), (0, 0)]) (ctU _ 1 0 (.inl (dA 3, 5, rfs (va_up (va_up (va_up (va_up (fun _ => none) 0 (some (u9 0 0))) 1 (some (u12 0 0))) 2 (some (u15 0 0))) 3 (some (u18 0 0)))))) H := hR
  refine lv_iinc (v := 4) (lv' := [(1, .int 4), (0, .ref a)]) hx hb dX5_init_77 hl (k := 0) rfl (by decide) (by decide) rfl (fun ls hl => ?_)
  refine lv_goto (tgt := 59) hx hb dX5_init_80 (by decide) ?_
  refine lv_iload_n hx hb dX5_init_59 rfl (lv_at hl 0 rfl) ?_
  refine lv_iconst (v := 5) hx hb dX5_init_60 (by decide) ?_
  refine lv_icmp_ge (tgt := 83) hx hb dX5_init_61 (by decide) (fun c19 => absurd c19 (by decide)) (fun c19 => ?_)
  refine lv_aload_n hx hb dX5_init_64 rfl (lv_at hl 1 rfl) ?_
  refine va_get (D := D) (ci := 6) (C := RX5) (T := TX5) (N := 8) hx hb hts iuX5 hown hK.1 (WW_one hR (f := 0) (i := 0) (by decide)) 0 (fs := [.ref q1, .ref q2, .ref q3, .ref q4, .ref q5, .ref q6, .int 0, .long 0]) rfl rfl 0 (by decide) (hts _ q_164) (fun _ h9 => h9) rfl dX5_init_65 ?_
  refine lv_iload_n hx hb dX5_init_68 rfl (lv_at hl 0 rfl) ?_
  refine cn_o 2 4 (C := RX0) (T := TX0) (N := 8) (ci := 1) (fs := [.long 0, .long 0, .long 0, .int 0, .int 0, .null, .null, .null]) hx hb hts iuX0 tyX0 tyX0_ok hown (hts _ q_65) (hts _ q_97) (hts _ q_39) hK.1 hR hS hA rfl (by decide) (Nat.le_of_ble_eq_true rfl) (Nat.le_of_ble_eq_true rfl) (by decide) dX5_init_69 (fun q20 H hAq hR hS => ?_)
  refine lv_dup hx hb dX5_init_72 rfl ?_
  refine kcN (f := 2) (i := 4) [((2, 4), (0, 0)), ((3, 4), (1, 0)), ((4, 4), (2, 0)), ((5, 4), (3, 0))] [(5, 4), (4, 4), (3, 4), (2, 4), (5, 3), (4, 3), (3, 3), (2, 3), (5, 2), (4, 2), (3, 2), (2, 2), (5, 1), (4, 1), (3, 1), (2, 1), (5, 0), (4, 0), (3, 0), (2, 0), (16, 0), (14, 0), (12, 0), (9, 0), (6, 0), (1, 0), (0, 0)] (va_runIN (As := []) (rest := [.ref q20, .int 4, .ref q1]) ⟨hx, hb, hml, hown, hts⟩ (mX0_init l D dA q20 _) ⟨va_cnB 0 hts (gN_of q_100) rfl rfl rfl (hK.2 _ q_98) (hts _ q_39) (by decide +kernel) ⟨Nat.le_of_ble_eq_true rfl, Nat.le_of_ble_eq_true rfl⟩, rfl, hts _ q_99⟩ (pre1_of (f := 2) (i := 4) hR (by decide) rfl hK rfl) rfl rfl hl.1 rfl (lv_room (Nat.le_of_ble_eq_true rfl)) dX5_init_73 ⟨Nat.le_of_ble_eq_true rfl, Nat.le_of_ble_eq_true rfl⟩) hR hA hS (by decide) rfl (by decide) (by decide) (by decide) (by decide) (fun u21 H locs hu21 hR hS => ?_)
  subst hu21
  refine ww_astM hx hb hK.1 hR hS 3 (f := 1) (j := 0) (by decide) (cA := dA 3) (n := 5) (fa := va_up (va_up (va_up (va_up (fun _ => none) 0 (some (u9 0 0))) 1 (some (u12 0 0))) 2 (some (u15 0 0))) 3 (some (u18 0 0))) rfl rfl (self_any hK hR (f := 2) (i := 4) (by decide) rfl rfl) (show ¬ ((4 : Int32) < 0 ∨ 5 ≤ (4 : Int32).toNatClampNeg) by decide) dX5_init_76 (fun H locs hR hS => ?_)
  have hR : WW D vwCl A0 _ (cvL [(5, 4), (4, 4), (3, 4), (2, 4), (5, 3), (4, 3), (3, 3), (2, 3), (5, 2), (4, 2), (3, 2), (2, 2), (5, 1), (4, 1), (3, 1), (2, 1), (5, 0), (4, 0), (3, 0), (2, 0), (16, 0), (14, 0), (12, 0), (9, 0), (6, 0), (1, 0), (0, 0)]) (ctU _ 1 0 (.inl (dA 3, 5, rfs (va_up (va_up (va_up (va_up (va_up (fun _ => none) 0 (some (u9 0 0))) 1 (some (u12 0 0))) 2 (some (u15 0 0))) 3 (some (u18 0 0))) 4 (some (u21 0 0)))))) H := hR
  refine lv_iinc (v := 5) (lv' := [(1, .int 5), (0, .ref a)]) hx hb dX5_init_77 hl (k := 0) rfl (by decide) (by decide) rfl (fun ls hl => ?_)
  refine lv_goto (tgt := 59) hx hb dX5_init_80 (by decide) ?_
  refine lv_iload_n hx hb dX5_init_59 rfl (lv_at hl 0 rfl) ?_
  refine lv_iconst (v := 5) hx hb dX5_init_60 (by decide) ?_
  refine lv_icmp_ge (tgt := 83) hx hb dX5_init_61 (by decide) (fun c22 => ?_) (fun c22 => absurd (by decide) c22)
  refine lv_iconst (v := 0) hx hb dX5_init_83 (by decide) ?_
  refine lv_istore_n (lv' := [(1, .int 0), (0, .ref a)]) hx hb dX5_init_84 rfl hl (by decide) rfl (fun ls hl => ?_)
  refine lv_iload_n hx hb dX5_init_85 rfl (lv_at hl 0 rfl) ?_
  refine lv_iconst (v := 3) hx hb dX5_init_86 (by decide) ?_
  refine lv_icmp_ge (tgt := 109) hx hb dX5_init_87 (by decide) (fun c23 => absurd c23 (by decide)) (fun c23 => ?_)
  refine lv_aload_n hx hb dX5_init_90 rfl (lv_at hl 1 rfl) ?_
  refine va_get (D := D) (ci := 6) (C := RX5) (T := TX5) (N := 8) hx hb hts iuX5 hown hK.1 (WW_one hR (f := 0) (i := 0) (by decide)) 0 (fs := [.ref q1, .ref q2, .ref q3, .ref q4, .ref q5, .ref q6, .int 0, .long 0]) rfl rfl 1 (by decide) (hts _ q_165) (fun _ h9 => h9) rfl dX5_init_91 ?_
  refine lv_iload_n hx hb dX5_init_94 rfl (lv_at hl 0 rfl) ?_
  refine cn_o 7 0 (C := RX3) (T := TX3) (N := 3) (ci := 4) (fs := [.int 0, .int 0, .null]) hx hb hts iuX3 tyX3 tyX3_ok hown (hts _ q_67) (hts _ q_133) (hts _ q_40) hK.1 hR hS hA rfl (by decide) (Nat.le_of_ble_eq_true rfl) (Nat.le_of_ble_eq_true rfl) (by decide) dX5_init_95 (fun q24 H hAq hR hS => ?_)
  refine lv_dup hx hb dX5_init_98 rfl ?_
  refine kcN (f := 7) (i := 0) [((7, 0), (0, 0)), ((8, 0), (1, 0))] [(8, 0), (7, 0), (5, 4), (4, 4), (3, 4), (2, 4), (5, 3), (4, 3), (3, 3), (2, 3), (5, 2), (4, 2), (3, 2), (2, 2), (5, 1), (4, 1), (3, 1), (2, 1), (5, 0), (4, 0), (3, 0), (2, 0), (16, 0), (14, 0), (12, 0), (9, 0), (6, 0), (1, 0), (0, 0)] (va_runIN (As := []) (rest := [.ref q24, .int 0, .ref q2]) ⟨hx, hb, hml, hown, hts⟩ (mX3_init l D dA q24 _) ⟨va_cnB 0 hts (gN_of q_136) rfl rfl rfl (hK.2 _ q_134) (hts _ q_40) (by decide +kernel) ⟨Nat.le_of_ble_eq_true rfl, Nat.le_of_ble_eq_true rfl⟩, rfl, hts _ q_135⟩ (pre1_of (f := 7) (i := 0) hR (by decide) rfl hK rfl) rfl rfl hl.1 rfl (lv_room (Nat.le_of_ble_eq_true rfl)) dX5_init_99 ⟨Nat.le_of_ble_eq_true rfl, Nat.le_of_ble_eq_true rfl⟩) hR hA hS (by decide) rfl (by decide) (by decide) (by decide) (by decide) (fun u25 H locs hu25 hR hS => ?_)
  subst hu25
  refine ww_astM hx hb hK.1 hR hS 4 (f := 6) (j := 0) (by decide) (cA := dA 4) (n := 3) (fa := fun _ => none) rfl rfl (self_any hK hR (f := 7) (i := 0) (by decide) rfl rfl) (show ¬ ((0 : Int32) < 0 ∨ 3 ≤ (0 : Int32).toNatClampNeg) by decide) dX5_init_102 (fun H locs hR hS => ?_)
  have hR : WW D vwCl A0 _ (cvL [(8, 0), (7, 0), (5, 4), (4, 4), (3, 4), (2, 4), (5, 3), (4, 3), (3, 3), (2, 3), (5, 2), (4, 2), (3, 2), (2, 2), (5, 1), (4, 1), (3, 1), (2, 1), (5, 0), (4, 0), (3, 0), (2, 0), (16, 0), (14, 0), (12, 0), (9, 0), (6, 0), (1, 0), (0, 0)]) (ctU _ 6 0 (.inl (dA 4, 3, rfs (va_up (fun _ => none) 0 (some (u25 0 0)))))) H := hR
  refine lv_iinc (v := 1) (lv' := [(1, .int 1), (0, .ref a)]) hx hb dX5_init_103 hl (k := 0) rfl (by decide) (by decide) rfl (fun ls hl => ?_)
  refine lv_goto (tgt := 85) hx hb dX5_init_106 (by decide) ?_
  refine lv_iload_n hx hb dX5_init_85 rfl (lv_at hl 0 rfl) ?_
  refine lv_iconst (v := 3) hx hb dX5_init_86 (by decide) ?_
  refine lv_icmp_ge (tgt := 109) hx hb dX5_init_87 (by decide) (fun c26 => absurd c26 (by decide)) (fun c26 => ?_)
  refine lv_aload_n hx hb dX5_init_90 rfl (lv_at hl 1 rfl) ?_
  refine va_get (D := D) (ci := 6) (C := RX5) (T := TX5) (N := 8) hx hb hts iuX5 hown hK.1 (WW_one hR (f := 0) (i := 0) (by decide)) 0 (fs := [.ref q1, .ref q2, .ref q3, .ref q4, .ref q5, .ref q6, .int 0, .long 0]) rfl rfl 1 (by decide) (hts _ q_165) (fun _ h9 => h9) rfl dX5_init_91 ?_
  refine lv_iload_n hx hb dX5_init_94 rfl (lv_at hl 0 rfl) ?_
  refine cn_o 7 1 (C := RX3) (T := TX3) (N := 3) (ci := 4) (fs := [.int 0, .int 0, .null]) hx hb hts iuX3 tyX3 tyX3_ok hown (hts _ q_67) (hts _ q_133) (hts _ q_40) hK.1 hR hS hA rfl (by decide) (Nat.le_of_ble_eq_true rfl) (Nat.le_of_ble_eq_true rfl) (by decide) dX5_init_95 (fun q27 H hAq hR hS => ?_)
  refine lv_dup hx hb dX5_init_98 rfl ?_
  refine kcN (f := 7) (i := 1) [((7, 1), (0, 0)), ((8, 1), (1, 0))] [(8, 1), (7, 1), (8, 0), (7, 0), (5, 4), (4, 4), (3, 4), (2, 4), (5, 3), (4, 3), (3, 3), (2, 3), (5, 2), (4, 2), (3, 2), (2, 2), (5, 1), (4, 1), (3, 1), (2, 1), (5, 0), (4, 0), (3, 0), (2, 0), (16, 0), (14, 0), (12, 0), (9, 0), (6, 0), (1, 0), (0, 0)] (va_runIN (As := []) (rest := [.ref q27, .int 1, .ref q2]) ⟨hx, hb, hml, hown, hts⟩ (mX3_init l D dA q27 _) ⟨va_cnB 0 hts (gN_of q_136) rfl rfl rfl (hK.2 _ q_134) (hts _ q_40) (by decide +kernel) ⟨Nat.le_of_ble_eq_true rfl, Nat.le_of_ble_eq_true rfl⟩, rfl, hts _ q_135⟩ (pre1_of (f := 7) (i := 1) hR (by decide) rfl hK rfl) rfl rfl hl.1 rfl (lv_room (Nat.le_of_ble_eq_true rfl)) dX5_init_99 ⟨Nat.le_of_ble_eq_true rfl, Nat.le_of_ble_eq_true rfl⟩) hR hA hS (by decide) rfl (by decide) (by decide) (by decide) (by decide) (fun u28 H locs hu28 hR hS => ?_)
  subst hu28
  refine ww_astM hx hb hK.1 hR hS 4 (f := 6) (j := 0) (by decide) (cA := dA 4) (n := 3) (fa := va_up (fun _ => none) 0 (some (u25 0 0))) rfl rfl (self_any hK hR (f := 7) (i := 1) (by decide) rfl rfl) (show ¬ ((1 : Int32) < 0 ∨ 3 ≤ (1 : Int32).toNatClampNeg) by decide) dX5_init_102 (fun H locs hR hS => ?_)
  have hR : WW D vwCl A0 _ (cvL [(8, 1), (7, 1), (8, 0), (7, 0), (5, 4), (4, 4), (3, 4), (2, 4), (5, 3), (4, 3), (3, 3), (2, 3), (5, 2), (4, 2), (3, 2), (2, 2), (5, 1), (4, 1), (3, 1), (2, 1), (5, 0), (4, 0), (3, 0), (2, 0), (16, 0), (14, 0), (12, 0), (9, 0), (6, 0), (1, 0), (0, 0)]) (ctU _ 6 0 (.inl (dA 4, 3, rfs (va_up (va_up (fun _ => none) 0 (some (u25 0 0))) 1 (some (u28 0 0)))))) H := hR
  refine lv_iinc (v := 2) (lv' := [(1, .int 2), (0, .ref a)]) hx hb dX5_init_103 hl (k := 0) rfl (by decide) (by decide) rfl (fun ls hl => ?_)
  refine lv_goto (tgt := 85) hx hb dX5_init_106 (by decide) ?_
  refine lv_iload_n hx hb dX5_init_85 rfl (lv_at hl 0 rfl) ?_
  refine lv_iconst (v := 3) hx hb dX5_init_86 (by decide) ?_
  refine lv_icmp_ge (tgt := 109) hx hb dX5_init_87 (by decide) (fun c29 => absurd c29 (by decide)) (fun c29 => ?_)
  refine lv_aload_n hx hb dX5_init_90 rfl (lv_at hl 1 rfl) ?_
  refine va_get (D := D) (ci := 6) (C := RX5) (T := TX5) (N := 8) hx hb hts iuX5 hown hK.1 (WW_one hR (f := 0) (i := 0) (by decide)) 0 (fs := [.ref q1, .ref q2, .ref q3, .ref q4, .ref q5, .ref q6, .int 0, .long 0]) rfl rfl 1 (by decide) (hts _ q_165) (fun _ h9 => h9) rfl dX5_init_91 ?_
  refine lv_iload_n hx hb dX5_init_94 rfl (lv_at hl 0 rfl) ?_
  refine cn_o 7 2 (C := RX3) (T := TX3) (N := 3) (ci := 4) (fs := [.int 0, .int 0, .null]) hx hb hts iuX3 tyX3 tyX3_ok hown (hts _ q_67) (hts _ q_133) (hts _ q_40) hK.1 hR hS hA rfl (by decide) (Nat.le_of_ble_eq_true rfl) (Nat.le_of_ble_eq_true rfl) (by decide) dX5_init_95 (fun q30 H hAq hR hS => ?_)
  refine lv_dup hx hb dX5_init_98 rfl ?_
  refine kcN (f := 7) (i := 2) [((7, 2), (0, 0)), ((8, 2), (1, 0))] [(8, 2), (7, 2), (8, 1), (7, 1), (8, 0), (7, 0), (5, 4), (4, 4), (3, 4), (2, 4), (5, 3), (4, 3), (3, 3), (2, 3), (5, 2), (4, 2), (3, 2), (2, 2), (5, 1), (4, 1), (3, 1), (2, 1), (5, 0), (4, 0), (3, 0), (2, 0), (16, 0), (14, 0), (12, 0), (9, 0), (6, 0), (1, 0), (0, 0)] (va_runIN (As := []) (rest := [.ref q30, .int 2, .ref q2]) ⟨hx, hb, hml, hown, hts⟩ (mX3_init l D dA q30 _) ⟨va_cnB 0 hts (gN_of q_136) rfl rfl rfl (hK.2 _ q_134) (hts _ q_40) (by decide +kernel) ⟨Nat.le_of_ble_eq_true rfl, Nat.le_of_ble_eq_true rfl⟩, rfl, hts _ q_135⟩ (pre1_of (f := 7) (i := 2) hR (by decide) rfl hK rfl) rfl rfl hl.1 rfl (lv_room (Nat.le_of_ble_eq_true rfl)) dX5_init_99 ⟨Nat.le_of_ble_eq_true rfl, Nat.le_of_ble_eq_true rfl⟩) hR hA hS (by decide) rfl (by decide) (by decide) (by decide) (by decide) (fun u31 H locs hu31 hR hS => ?_)
  subst hu31
  refine ww_astM hx hb hK.1 hR hS 4 (f := 6) (j := 0) (by decide) (cA := dA 4) (n := 3) (fa := va_up (va_up (fun _ => none) 0 (some (u25 0 0))) 1 (some (u28 0 0))) rfl rfl (self_any hK hR (f := 7) (i := 2) (by decide) rfl rfl) (show ¬ ((2 : Int32) < 0 ∨ 3 ≤ (2 : Int32).toNatClampNeg) by decide) dX5_init_102 (fun H locs hR hS => ?_)
  have hR : WW D vwCl A0 _ (cvL [(8, 2), (7, 2), (8, 1), (7, 1), (8, 0), (7, 0), (5, 4), (4, 4), (3, 4), (2, 4), (5, 3), (4, 3), (3, 3), (2, 3), (5, 2), (4, 2), (3, 2), (2, 2), (5, 1), (4, 1), (3, 1), (2, 1), (5, 0), (4, 0), (3, 0), (2, 0), (16, 0), (14, 0), (12, 0), (9, 0), (6, 0), (1, 0), (0, 0)]) (ctU _ 6 0 (.inl (dA 4, 3, rfs (va_up (va_up (va_up (fun _ => none) 0 (some (u25 0 0))) 1 (some (u28 0 0))) 2 (some (u31 0 0)))))) H := hR
  refine lv_iinc (v := 3) (lv' := [(1, .int 3), (0, .ref a)]) hx hb dX5_init_103 hl (k := 0) rfl (by decide) (by decide) rfl (fun ls hl => ?_)
  refine lv_goto (tgt := 85) hx hb dX5_init_106 (by decide) ?_
  refine lv_iload_n hx hb dX5_init_85 rfl (lv_at hl 0 rfl) ?_
  refine lv_iconst (v := 3) hx hb dX5_init_86 (by decide) ?_
  refine lv_icmp_ge (tgt := 109) hx hb dX5_init_87 (by decide) (fun c32 => ?_) (fun c32 => absurd (by decide) c32)
  refine lv_iconst (v := 0) hx hb dX5_init_109 (by decide) ?_
  refine lv_istore_n (lv' := [(1, .int 0), (0, .ref a)]) hx hb dX5_init_110 rfl hl (by decide) rfl (fun ls hl => ?_)
  refine lv_iload_n hx hb dX5_init_111 rfl (lv_at hl 0 rfl) ?_
  refine lv_iconst (v := 2) hx hb dX5_init_112 (by decide) ?_
  refine lv_icmp_ge (tgt := 135) hx hb dX5_init_113 (by decide) (fun c33 => absurd c33 (by decide)) (fun c33 => ?_)
  refine lv_aload_n hx hb dX5_init_116 rfl (lv_at hl 1 rfl) ?_
  refine va_get (D := D) (ci := 6) (C := RX5) (T := TX5) (N := 8) hx hb hts iuX5 hown hK.1 (WW_one hR (f := 0) (i := 0) (by decide)) 0 (fs := [.ref q1, .ref q2, .ref q3, .ref q4, .ref q5, .ref q6, .int 0, .long 0]) rfl rfl 2 (by decide) (hts _ q_166) (fun _ h9 => h9) rfl dX5_init_117 ?_
  refine lv_iload_n hx hb dX5_init_120 rfl (lv_at hl 0 rfl) ?_
  refine cn_o 10 0 (C := RX1) (T := TX1) (N := 2) (ci := 2) (fs := [.null, .int 0]) hx hb hts iuX1 tyX1 tyX1_ok hown (hts _ q_69) (hts _ q_150) (hts _ q_41) hK.1 hR hS hA rfl (by decide) (Nat.le_of_ble_eq_true rfl) (Nat.le_of_ble_eq_true rfl) (by decide) dX5_init_121 (fun q34 H hAq hR hS => ?_)
  refine lv_dup hx hb dX5_init_124 rfl ?_
  refine kcN (f := 10) (i := 0) [((10, 0), (0, 0)), ((11, 0), (1, 0))] [(11, 0), (10, 0), (8, 2), (7, 2), (8, 1), (7, 1), (8, 0), (7, 0), (5, 4), (4, 4), (3, 4), (2, 4), (5, 3), (4, 3), (3, 3), (2, 3), (5, 2), (4, 2), (3, 2), (2, 2), (5, 1), (4, 1), (3, 1), (2, 1), (5, 0), (4, 0), (3, 0), (2, 0), (16, 0), (14, 0), (12, 0), (9, 0), (6, 0), (1, 0), (0, 0)] (va_runIN (As := []) (rest := [.ref q34, .int 0, .ref q3]) ⟨hx, hb, hml, hown, hts⟩ (mX1_init l D dA q34 _) ⟨va_cnB 0 hts (gN_of q_153) rfl rfl rfl (hK.2 _ q_151) (hts _ q_41) (by decide +kernel) ⟨Nat.le_of_ble_eq_true rfl, Nat.le_of_ble_eq_true rfl⟩, rfl, hts _ q_152⟩ (pre1_of (f := 10) (i := 0) hR (by decide) rfl hK rfl) rfl rfl hl.1 rfl (lv_room (Nat.le_of_ble_eq_true rfl)) dX5_init_125 ⟨Nat.le_of_ble_eq_true rfl, Nat.le_of_ble_eq_true rfl⟩) hR hA hS (by decide) rfl (by decide) (by decide) (by decide) (by decide) (fun u35 H locs hu35 hR hS => ?_)
  subst hu35
  refine ww_astM hx hb hK.1 hR hS 5 (f := 9) (j := 0) (by decide) (cA := dA 5) (n := 2) (fa := fun _ => none) rfl rfl (self_any hK hR (f := 10) (i := 0) (by decide) rfl rfl) (show ¬ ((0 : Int32) < 0 ∨ 2 ≤ (0 : Int32).toNatClampNeg) by decide) dX5_init_128 (fun H locs hR hS => ?_)
  have hR : WW D vwCl A0 _ (cvL [(11, 0), (10, 0), (8, 2), (7, 2), (8, 1), (7, 1), (8, 0), (7, 0), (5, 4), (4, 4), (3, 4), (2, 4), (5, 3), (4, 3), (3, 3), (2, 3), (5, 2), (4, 2), (3, 2), (2, 2), (5, 1), (4, 1), (3, 1), (2, 1), (5, 0), (4, 0), (3, 0), (2, 0), (16, 0), (14, 0), (12, 0), (9, 0), (6, 0), (1, 0), (0, 0)]) (ctU _ 9 0 (.inl (dA 5, 2, rfs (va_up (fun _ => none) 0 (some (u35 0 0)))))) H := hR
  refine lv_iinc (v := 1) (lv' := [(1, .int 1), (0, .ref a)]) hx hb dX5_init_129 hl (k := 0) rfl (by decide) (by decide) rfl (fun ls hl => ?_)
  refine lv_goto (tgt := 111) hx hb dX5_init_132 (by decide) ?_
  refine lv_iload_n hx hb dX5_init_111 rfl (lv_at hl 0 rfl) ?_
  refine lv_iconst (v := 2) hx hb dX5_init_112 (by decide) ?_
  refine lv_icmp_ge (tgt := 135) hx hb dX5_init_113 (by decide) (fun c36 => absurd c36 (by decide)) (fun c36 => ?_)
  refine lv_aload_n hx hb dX5_init_116 rfl (lv_at hl 1 rfl) ?_
  refine va_get (D := D) (ci := 6) (C := RX5) (T := TX5) (N := 8) hx hb hts iuX5 hown hK.1 (WW_one hR (f := 0) (i := 0) (by decide)) 0 (fs := [.ref q1, .ref q2, .ref q3, .ref q4, .ref q5, .ref q6, .int 0, .long 0]) rfl rfl 2 (by decide) (hts _ q_166) (fun _ h9 => h9) rfl dX5_init_117 ?_
  refine lv_iload_n hx hb dX5_init_120 rfl (lv_at hl 0 rfl) ?_
  refine cn_o 10 1 (C := RX1) (T := TX1) (N := 2) (ci := 2) (fs := [.null, .int 0]) hx hb hts iuX1 tyX1 tyX1_ok hown (hts _ q_69) (hts _ q_150) (hts _ q_41) hK.1 hR hS hA rfl (by decide) (Nat.le_of_ble_eq_true rfl) (Nat.le_of_ble_eq_true rfl) (by decide) dX5_init_121 (fun q37 H hAq hR hS => ?_)
  refine lv_dup hx hb dX5_init_124 rfl ?_
  refine kcN (f := 10) (i := 1) [((10, 1), (0, 0)), ((11, 1), (1, 0))] [(11, 1), (10, 1), (11, 0), (10, 0), (8, 2), (7, 2), (8, 1), (7, 1), (8, 0), (7, 0), (5, 4), (4, 4), (3, 4), (2, 4), (5, 3), (4, 3), (3, 3), (2, 3), (5, 2), (4, 2), (3, 2), (2, 2), (5, 1), (4, 1), (3, 1), (2, 1), (5, 0), (4, 0), (3, 0), (2, 0), (16, 0), (14, 0), (12, 0), (9, 0), (6, 0), (1, 0), (0, 0)] (va_runIN (As := []) (rest := [.ref q37, .int 1, .ref q3]) ⟨hx, hb, hml, hown, hts⟩ (mX1_init l D dA q37 _) ⟨va_cnB 0 hts (gN_of q_153) rfl rfl rfl (hK.2 _ q_151) (hts _ q_41) (by decide +kernel) ⟨Nat.le_of_ble_eq_true rfl, Nat.le_of_ble_eq_true rfl⟩, rfl, hts _ q_152⟩ (pre1_of (f := 10) (i := 1) hR (by decide) rfl hK rfl) rfl rfl hl.1 rfl (lv_room (Nat.le_of_ble_eq_true rfl)) dX5_init_125 ⟨Nat.le_of_ble_eq_true rfl, Nat.le_of_ble_eq_true rfl⟩) hR hA hS (by decide) rfl (by decide) (by decide) (by decide) (by decide) (fun u38 H locs hu38 hR hS => ?_)
  subst hu38
  refine ww_astM hx hb hK.1 hR hS 5 (f := 9) (j := 0) (by decide) (cA := dA 5) (n := 2) (fa := va_up (fun _ => none) 0 (some (u35 0 0))) rfl rfl (self_any hK hR (f := 10) (i := 1) (by decide) rfl rfl) (show ¬ ((1 : Int32) < 0 ∨ 2 ≤ (1 : Int32).toNatClampNeg) by decide) dX5_init_128 (fun H locs hR hS => ?_)
  have hR : WW D vwCl A0 _ (cvL [(11, 1), (10, 1), (11, 0), (10, 0), (8, 2), (7, 2), (8, 1), (7, 1), (8, 0), (7, 0), (5, 4), (4, 4), (3, 4), (2, 4), (5, 3), (4, 3), (3, 3), (2, 3), (5, 2), (4, 2), (3, 2), (2, 2), (5, 1), (4, 1), (3, 1), (2, 1), (5, 0), (4, 0), (3, 0), (2, 0), (16, 0), (14, 0), (12, 0), (9, 0), (6, 0), (1, 0), (0, 0)]) (ctU _ 9 0 (.inl (dA 5, 2, rfs (va_up (va_up (fun _ => none) 0 (some (u35 0 0))) 1 (some (u38 0 0)))))) H := hR
  refine lv_iinc (v := 2) (lv' := [(1, .int 2), (0, .ref a)]) hx hb dX5_init_129 hl (k := 0) rfl (by decide) (by decide) rfl (fun ls hl => ?_)
  refine lv_goto (tgt := 111) hx hb dX5_init_132 (by decide) ?_
  refine lv_iload_n hx hb dX5_init_111 rfl (lv_at hl 0 rfl) ?_
  refine lv_iconst (v := 2) hx hb dX5_init_112 (by decide) ?_
  refine lv_icmp_ge (tgt := 135) hx hb dX5_init_113 (by decide) (fun c39 => ?_) (fun c39 => absurd (by decide) c39)
  refine ret_cls hC hR rfl ?_ ?_ hS dX5_init_135
  · intro f i h
    match f, h with
    | 0, h => have h : i = 0 := h; subst h; decide
    | 1, h => have h : i = 0 := h; subst h; decide
    | 2, h =>
      match i, h with
      | 0, _ => decide
      | 1, _ => decide
      | 2, _ => decide
      | 3, _ => decide
      | 4, _ => decide
      | i + 5, h => exact absurd (show i + 5 < 5 from h) (by omega)
    | 3, h =>
      match i, h with
      | 0, _ => decide
      | 1, _ => decide
      | 2, _ => decide
      | 3, _ => decide
      | 4, _ => decide
      | i + 5, h => exact absurd (show i + 5 < 5 from h) (by omega)
    | 4, h =>
      match i, h with
      | 0, _ => decide
      | 1, _ => decide
      | 2, _ => decide
      | 3, _ => decide
      | 4, _ => decide
      | i + 5, h => exact absurd (show i + 5 < 5 from h) (by omega)
    | 5, h =>
      match i, h with
      | 0, _ => decide
      | 1, _ => decide
      | 2, _ => decide
      | 3, _ => decide
      | 4, _ => decide
      | i + 5, h => exact absurd (show i + 5 < 5 from h) (by omega)
    | 6, h => have h : i = 0 := h; subst h; decide
    | 7, h =>
      match i, h with
      | 0, _ => decide
      | 1, _ => decide
      | 2, _ => decide
      | i + 3, h => exact absurd (show i + 3 < 3 from h) (by omega)
    | 8, h =>
      match i, h with
      | 0, _ => decide
      | 1, _ => decide
      | 2, _ => decide
      | i + 3, h => exact absurd (show i + 3 < 3 from h) (by omega)
    | 9, h => have h : i = 0 := h; subst h; decide
    | 10, h =>
      match i, h with
      | 0, _ => decide
      | 1, _ => decide
      | i + 2, h => exact absurd (show i + 2 < 2 from h) (by omega)
    | 11, h =>
      match i, h with
      | 0, _ => decide
      | 1, _ => decide
      | i + 2, h => exact absurd (show i + 2 < 2 from h) (by omega)
    | 12, h => have h : i = 0 := h; subst h; decide
    | 13, h => exact absurd h.2 (Nat.lt_irrefl 0)
    | 14, h => have h : i = 0 := h; subst h; decide
    | 15, h => exact absurd h.2 (Nat.lt_irrefl 0)
    | 16, h => have h : i = 0 := h; subst h; decide
    | 17, h => exact absurd h (Nat.not_lt_zero i)
    | 18, h => exact absurd h (Nat.not_lt_zero i)
    | 19, h => exact absurd h.2 (by decide)
    | f + 20, h => exact h.elim
  · intro f i h
    match f, h with
    | 0, h => have h : i = 0 := h; subst h; exact vE_rfl rfl
    | 1, h =>
      have h : i = 0 := h
      subst h
      exact vE_r (fun j hj => by
        match j, hj with
        | 0, _ => rfl
        | 1, _ => rfl
        | 2, _ => rfl
        | 3, _ => rfl
        | 4, _ => rfl
        | j + 5, h => exact absurd h (by omega))
    | 2, h =>
      match i, h with
      | 0, _ => exact vE_rfl rfl
      | 1, _ => exact vE_rfl rfl
      | 2, _ => exact vE_rfl rfl
      | 3, _ => exact vE_rfl rfl
      | 4, _ => exact vE_rfl rfl
      | i + 5, h => exact absurd (show i + 5 < 5 from h) (by omega)
    | 3, h =>
      match i, h with
      | 0, _ => exact vE_rfl rfl
      | 1, _ => exact vE_rfl rfl
      | 2, _ => exact vE_rfl rfl
      | 3, _ => exact vE_rfl rfl
      | 4, _ => exact vE_rfl rfl
      | i + 5, h => exact absurd (show i + 5 < 5 from h) (by omega)
    | 4, h =>
      match i, h with
      | 0, _ => exact vE_rfl rfl
      | 1, _ => exact vE_rfl rfl
      | 2, _ => exact vE_rfl rfl
      | 3, _ => exact vE_rfl rfl
      | 4, _ => exact vE_rfl rfl
      | i + 5, h => exact absurd (show i + 5 < 5 from h) (by omega)
    | 5, h =>
      match i, h with
      | 0, _ => exact vE_rfl rfl
      | 1, _ => exact vE_rfl rfl
      | 2, _ => exact vE_rfl rfl
      | 3, _ => exact vE_rfl rfl
      | 4, _ => exact vE_rfl rfl
      | i + 5, h => exact absurd (show i + 5 < 5 from h) (by omega)
    | 6, h =>
      have h : i = 0 := h
      subst h
      exact vE_r (fun j hj => by
        match j, hj with
        | 0, _ => rfl
        | 1, _ => rfl
        | 2, _ => rfl
        | j + 3, h => exact absurd h (by omega))
    | 7, h =>
      match i, h with
      | 0, _ => exact vE_rfl rfl
      | 1, _ => exact vE_rfl rfl
      | 2, _ => exact vE_rfl rfl
      | i + 3, h => exact absurd (show i + 3 < 3 from h) (by omega)
    | 8, h =>
      match i, h with
      | 0, _ => exact vE_rfl rfl
      | 1, _ => exact vE_rfl rfl
      | 2, _ => exact vE_rfl rfl
      | i + 3, h => exact absurd (show i + 3 < 3 from h) (by omega)
    | 9, h =>
      have h : i = 0 := h
      subst h
      exact vE_r (fun j hj => by
        match j, hj with
        | 0, _ => rfl
        | 1, _ => rfl
        | j + 2, h => exact absurd h (by omega))
    | 10, h =>
      match i, h with
      | 0, _ => exact vE_rfl rfl
      | 1, _ => exact vE_rfl rfl
      | i + 2, h => exact absurd (show i + 2 < 2 from h) (by omega)
    | 11, h =>
      match i, h with
      | 0, _ =>
        exact vE_i (fun j hj => by
          match j, hj with
          | 0, _ => rfl
          | 1, _ => rfl
          | 2, _ => rfl
          | 3, _ => rfl
          | j + 4, h => exact absurd h (by omega))
      | 1, _ =>
        exact vE_i (fun j hj => by
          match j, hj with
          | 0, _ => rfl
          | 1, _ => rfl
          | 2, _ => rfl
          | 3, _ => rfl
          | j + 4, h => exact absurd h (by omega))
      | i + 2, h => exact absurd (show i + 2 < 2 from h) (by omega)
    | 12, h => have h : i = 0 := h; subst h; exact vE_rfl rfl
    | 13, h => exact absurd h.2 (Nat.lt_irrefl 0)
    | 14, h => have h : i = 0 := h; subst h; exact vE_rfl rfl
    | 15, h => exact absurd h.2 (Nat.lt_irrefl 0)
    | 16, h => have h : i = 0 := h; subst h; exact vE_rfl rfl
    | 17, h => exact absurd h (Nat.not_lt_zero i)
    | 18, h => exact absurd h (Nat.not_lt_zero i)
    | 19, h => exact absurd h.2 (by decide)
    | f + 20, h => exact h.elim
