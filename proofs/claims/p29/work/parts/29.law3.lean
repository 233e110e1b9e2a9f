def fL_both (σ1 σ2 : St) (a3 : Int32) (a4 : Int32) (a5 : Int32) (a6 : Int32) : Option ((Int32 × St × St) × Nat × Nat) := bt2 (fL_call σ1 a3 a4 a5 a6) (fun q1 => bt2 (fL_call σ2 a3 a4 a5 a6) (fun q6 => if ¬ q1.1 = q6.1 then some (((-2000000099), q1.2, q6.2), 0, 0) else some ((q1.1, q1.2, q6.2), 0, 0)))
set_option maxHeartbeats 4000000 in
set_option maxRecDepth 100000 in
theorem mL_both (l : Launch) (hst : l.stackTraces = false) (D : va_G) (dA : Nat → ClassId) (x mi h1 h2 : Nat) (σ1 σ2 : St) (A0 : Nat → Prop) (sz : Nat) (a3 : Int32) (a4 : Int32) (a5 : Int32) (a6 : Int32) (r : Int32) (σ1' σ2' : St) (mc ms : Nat) (hf : fL_both σ1 σ2 a3 a4 a5 a6 = some ((r, σ1', σ2'), mc, ms)) : Met l yL_both (WSy yL_both cL_both 7 (some .int)) ({ frames := 13, cells := mc, slots := ms, locals := 325 } : Room) (va_Pc [.ref h1, .ref h2, .int a3, .int a4, .int a5, .int a6] (Pre2 D dA x mi h1 h2 σ1 σ2 A0 sz)) (va_Qi (fun (z : Int32) (_ : Unit) => z = r) (fun _ t => W2 D dA x h1 h2 σ1' σ2' A0 t.heap) A0) mc ms A0 := by
  refine met_of (by decide) (Nat.le_of_ble_eq_true rfl) ?_
  intro p e s m below meth c ls hC hB hl
  obtain ⟨rfl, hA, hW, hK, hX⟩ := hB
  have hS : va_S A0 s.heap s.heap [] := va_S.rf
  have hC : CTX p s m _ meth c cL_both 7 RL (some .int) := hC
  obtain ⟨hx, hb, hml, hown, hts, hr, hlk⟩ := id hC
  have hl : lv_has ls 7 [(0, .ref h1), (1, .ref h2), (2, .int a3), (3, .int a4), (4, .int a5), (5, .int a6)] := hl
  have hm : mc = 0 + mc := (Nat.zero_add mc).symm
  have hn : ms = 0 + ms := (Nat.zero_add ms).symm
  unfold fL_both at hf
  refine lv_aload_n hx hb dL_both_0 rfl (lv_at hl 0 rfl) ?_
  refine lv_iload_n hx hb dL_both_1 rfl (lv_at hl 2 rfl) ?_
  refine lv_iload_n hx hb dL_both_2 rfl (lv_at hl 3 rfl) ?_
  refine lv_iload hx hb dL_both_3 (lv_at hl 4 rfl) ?_
  refine lv_iload hx hb dL_both_5 (lv_at hl 5 rfl) ?_
  obtain ⟨q1, m2, n3, m4, n5, hcq1, hf, hem, hen⟩ := bt2_of hf
  refine kdA_i (X := [13, 15]) (rest := []) (r := q1.1) (σ' := q1.2) (by decide) hA hW hS (fun ad g0 hR hLX => by subst g0; exact ⟨_, vx_runSW (As := [.ref (ad 0 0), .int a3, .int a4, .int a5, .int a6]) ⟨hx, hb, hml, hown, hts⟩ (mL_call l hst D dA ad σ1 _ x mi a3 a4 a5 a6 q1.1 q1.2 m2 n3 hcq1) (vx_cwSW 5 hts gL_120 rfl rfl rfl (by decide +kernel) ⟨Nat.le_of_ble_eq_true rfl, Nat.le_of_ble_eq_true rfl⟩) (preSA_of hA hR hS hK hX hLX _) rfl rfl hl.1 rfl (lv_room (Nat.le_of_ble_eq_true rfl)) dL_both_7 ⟨nle hm hem, nle hn hen⟩⟩) (fun H locs hW hS => ?_)
  have hm := nadd hm hem
  have hn := nadd hn hen
  refine lv_istore (lv' := [(6, .int q1.1), (0, .ref h1), (1, .ref h2), (2, .int a3), (3, .int a4), (4, .int a5), (5, .int a6)]) hx hb dL_both_10 hl (by decide) rfl (fun ls hl => ?_)
  refine lv_iload hx hb dL_both_12 (lv_at hl 0 rfl) ?_
  refine lv_aload_n hx hb dL_both_14 rfl (lv_at hl 2 rfl) ?_
  refine lv_iload_n hx hb dL_both_15 rfl (lv_at hl 3 rfl) ?_
  refine lv_iload_n hx hb dL_both_16 rfl (lv_at hl 4 rfl) ?_
  refine lv_iload hx hb dL_both_17 (lv_at hl 5 rfl) ?_
  refine lv_iload hx hb dL_both_19 (lv_at hl 6 rfl) ?_
  obtain ⟨q6, m7, n8, m9, n10, hcq6, hf, hem, hen⟩ := bt2_of hf
  refine kdA_i (X := [13, 15]) (rest := [.int q1.1]) (r := q6.1) (σ' := q6.2) (by decide) hA (W2_swap hW) hS (fun ad g0 hR hLX => by subst g0; exact ⟨_, vx_runSW (As := [.ref (ad 0 0), .int a3, .int a4, .int a5, .int a6]) ⟨hx, hb, hml, hown, hts⟩ (mL_call l hst D dA ad σ2 _ x mi a3 a4 a5 a6 q6.1 q6.2 m7 n8 hcq6) (vx_cwSW 5 hts gL_120 rfl rfl rfl (by decide +kernel) ⟨Nat.le_of_ble_eq_true rfl, Nat.le_of_ble_eq_true rfl⟩) (preSA_of hA hR hS hK hX hLX _) rfl rfl hl.1 rfl (lv_room (Nat.le_of_ble_eq_true rfl)) dL_both_21 ⟨nle hm hem, nle hn hen⟩⟩) (fun H locs hW hS => ?_)
  have hW := W2_swap hW
  have hm := nadd hm hem
  have hn := nadd hn hen
  refine lv_icmp_ne (tgt := 32) hx hb dL_both_24 (by decide) (fun c11 => ?_) (fun c11 => ?_)
  · have hf := if_of_pos hf c11
    refine lv_ldc (v := (-2000000099)) hx hb hown (hts _ q_661) dL_both_32 ?_
    cases hf
    exact retd_i hC hW hS (nfin hm) (nfin hn) dL_both_34
  · have hf := if_of_neg hf (fun q => q c11)
    refine lv_iload hx hb dL_both_27 (lv_at hl 0 rfl) ?_
    refine lv_goto (tgt := 34) hx hb dL_both_29 (by decide) ?_
    cases hf
    exact retd_i hC hW hS (nfin hm) (nfin hn) dL_both_34
def fL_tells_J57 (σ1 σ2 : St) (v2 : Int32) (v4 : Int32) (t0 : Int32) : Option ((Int32 × St × St) × Nat × Nat) := bd (fL_some σ1 (v2 >>> (5 &&& 31)) 5) (fun q76 => yb (fX5_equity σ1 q76) (fun q81 => bt2 (fL_both q81.2 σ2 0 v4 t0 0) (fun q86 => if q86.1 ≤ 0 then some ((0, q86.2.1, q86.2.2), 0, 0) else yb (fX5_equity q86.2.1 q76) (fun q93 => yb (fX5_position q93.2 q76 v4) (fun q98 => if ¬ q93.1 = (q81.1 + (q98.1 * (t0 - q86.1))) then some ((0, q98.2, q86.2.2), 0, 0) else bt2 (fL_both q98.2 q86.2.2 0 v4 q86.1 0) (fun q106 => if ¬ q106.1 = t0 then some ((0, q106.2.1, q106.2.2), 0, 0) else yb (fX5_equity q106.2.1 q76) (fun q112 => if ¬ q112.1 = q81.1 then some ((0, q112.2, q106.2.2), 0, 0) else bt2 (fL_both q112.2 q106.2.2 0 v4 t0 0) (fun q118 => if ¬ q118.1 = q86.1 then some ((0, q118.2.1, q118.2.2), 0, 0) else some ((1, q118.2.1, q118.2.2), 0, 0)))))))))
set_option maxHeartbeats 4000000 in
set_option maxRecDepth 100000 in
theorem wL_tells_J57 {p : Program} {l : Launch} {e : Env} {s : State} {m : MethodId} {args : Array Value} {below : List Frame} {meth : Method} {c : Code} {D : va_G} {dA : Nat → ClassId} {A0 : Nat → Prop} {x mi mc ms h1 h2 : Nat} {r : Int32} {σ1' σ2' : St} (hC : CTX p s m args meth c cL_tells 10 RL (some .boolean)) (hK : KS D dA s) (hA : ∀ q, s.heap.size ≤ q → A0 q) (hX : EXT x mi A0 s s.heap) (hst : l.stackTraces = false) : ∀ (H : Heap) (locs : List Loc) (ls : Array Slot) (c0 s0 mr sr : Nat) (σ1 σ2 : St) (v2 : Int32) (v4 : Int32) (t0 : Int32), mc = c0 + mr → ms = s0 + sr → W2 D dA x h1 h2 σ1 σ2 A0 H → va_S A0 s.heap H locs → lv_has ls 10 [(0, .ref h1), (1, .ref h2), (2, .int v2), (4, .int v4)] → fL_tells_J57 σ1 σ2 v2 v4 t0 = some ((r, σ1', σ2'), mr, sr) → W p l e ({ frames := 14, cells := mc, slots := ms, locals := 351 } : Room) s m args below meth c H locs c0 s0 (MQ below (va_Qi (fun (z : Int32) (_ : Unit) => z = r) (fun _ t => W2 D dA x h1 h2 σ1' σ2' A0 t.heap) A0) args s mc ms A0) (F0 m 57 ls [.int t0]) := by
  obtain ⟨hx, hb, hml, hown, hts, hr, hlk⟩ := id hC
  intro H locs ls c0 s0 mr sr σ1 σ2 v2 v4 t0 hm hn hW hS hl hf
  unfold fL_tells_J57 at hf
  refine lv_istore (lv' := [(5, .int t0), (0, .ref h1), (1, .ref h2), (2, .int v2), (4, .int v4)]) hx hb dL_tells_57 hl (by decide) rfl (fun ls hl => ?_)
  refine lv_iload_n hx hb dL_tells_59 rfl (lv_at hl 3 rfl) ?_
  refine lv_iconst (v := 5) hx hb dL_tells_60 (by decide) ?_
  refine lv_ishr hx hb dL_tells_61 ?_
  refine lv_iconst (v := 5) hx hb dL_tells_62 (by decide) ?_
  obtain ⟨q76, hcq76, hf⟩ := bd_of hf
  refine kdP_i (rest := []) (r := q76) (σ' := σ1) ⟨rfl, rfl, rfl, rfl, rfl, rfl, rfl⟩ hA hW hS (fun ad g0 hR => by subst g0; exact ⟨_, va_runS (As := [.int (v2 >>> (5 &&& 31)), .int 5]) ⟨hx, hb, hml, hown, hts⟩ (mL_some l D dA ad σ1 _ (v2 >>> (5 &&& 31)) 5 q76 hcq76) (va_cwS 2 hts gL_128 rfl rfl rfl (by decide +kernel) ⟨Nat.le_of_ble_eq_true rfl, Nat.le_of_ble_eq_true rfl⟩) (preS_of hR hK _) rfl rfl hl.1 rfl (lv_room (Nat.le_of_ble_eq_true rfl)) dL_tells_63 ⟨nle0 hm, nle0 hn⟩⟩) (fun H locs hW hS => ?_)
  refine lv_istore (lv' := [(6, .int q76), (5, .int t0), (0, .ref h1), (1, .ref h2), (2, .int v2), (4, .int v4)]) hx hb dL_tells_66 hl (by decide) rfl (fun ls hl => ?_)
  refine lv_aload_n hx hb dL_tells_68 rfl (lv_at hl 2 rfl) ?_
  refine lv_iload hx hb dL_tells_69 (lv_at hl 0 rfl) ?_
  obtain ⟨q81, m82, n83, m84, n85, hcq81, hf, hem, hen⟩ := yb_of hf
  refine kdX_i (X := []) (rest := []) (q := q81) (by decide) hA hW hS (fun ad g0 hR hLX => by subst g0; exact ⟨_, vx_runV (As := [.int q76]) ⟨hx, hb, hml, hown, hts⟩ (mX5_equity l hst D dA ad σ1 _ x mi q76 (.inr q81) m82 n83 hcq81) (cwV 1 hts gL_80 rfl rfl rfl (by decide +kernel) ⟨Nat.le_of_ble_eq_true rfl, Nat.le_of_ble_eq_true rfl⟩) (preVA_of hA hR hS hK hX hLX _) rfl rfl hl.1 rfl (lv_room (Nat.le_of_ble_eq_true rfl)) dL_tells_71 ⟨nle hm hem, nle hn hen⟩⟩) (fun H locs hW hS => ?_)
  have hm := nadd hm hem
  have hn := nadd hn hen
  refine lv_istore (lv' := [(7, .int q81.1), (6, .int q76), (5, .int t0), (0, .ref h1), (1, .ref h2), (2, .int v2), (4, .int v4)]) hx hb dL_tells_74 hl (by decide) rfl (fun ls hl => ?_)
  refine lv_aload_n hx hb dL_tells_76 rfl (lv_at hl 3 rfl) ?_
  refine lv_aload_n hx hb dL_tells_77 rfl (lv_at hl 4 rfl) ?_
  refine lv_iconst (v := 0) hx hb dL_tells_78 (by decide) ?_
  refine lv_iload hx hb dL_tells_79 (lv_at hl 6 rfl) ?_
  refine lv_iload hx hb dL_tells_81 (lv_at hl 2 rfl) ?_
  refine lv_iconst (v := 0) hx hb dL_tells_83 (by decide) ?_
  obtain ⟨q86, m87, n88, m89, n90, hcq86, hf, hem, hen⟩ := bt2_of hf
  refine kdD_i (rest := []) hS (va_runS (As := [.ref h1, .ref h2, .int 0, .int v4, .int t0, .int 0]) ⟨hx, hb, hml, hown, hts⟩ (mL_both l hst D dA x mi h1 h2 q81.2 σ2 A0 _ 0 v4 t0 0 q86.1 q86.2.1 q86.2.2 m87 n88 hcq86) (va_cwS 6 hts gL_131 rfl rfl rfl (by decide +kernel) ⟨Nat.le_of_ble_eq_true rfl, Nat.le_of_ble_eq_true rfl⟩) (preD_of hA hW hS hK hX _) rfl rfl hl.1 rfl (lv_room (Nat.le_of_ble_eq_true rfl)) dL_tells_84 ⟨nle hm hem, nle hn hen⟩) (fun H locs hW hS => ?_)
  have hm := nadd hm hem
  have hn := nadd hn hen
  refine lv_istore (lv' := [(8, .int q86.1), (7, .int q81.1), (6, .int q76), (5, .int t0), (0, .ref h1), (1, .ref h2), (2, .int v2), (4, .int v4)]) hx hb dL_tells_87 hl (by decide) rfl (fun ls hl => ?_)
  refine lv_iload hx hb dL_tells_89 (lv_at hl 0 rfl) ?_
  refine lv_if_le (tgt := 124) hx hb dL_tells_91 (by decide) (fun c91 => ?_) (fun c91 => ?_)
  · have hf := if_of_pos hf c91
    refine lv_iconst (v := 0) hx hb dL_tells_124 (by decide) ?_
    refine lv_istore (lv' := [(9, .int 0), (8, .int q86.1), (7, .int q81.1), (6, .int q76), (5, .int t0), (0, .ref h1), (1, .ref h2), (2, .int v2), (4, .int v4)]) hx hb dL_tells_125 hl (by decide) rfl (fun ls hl => ?_)
    refine lv_iload hx hb dL_tells_127 (lv_at hl 0 rfl) ?_
    refine lv_if_eq (tgt := 179) hx hb dL_tells_129 (by decide) (fun c92 => ?_) (fun c92 => absurd (by decide) c92)
    refine lv_iconst (v := 0) hx hb dL_tells_179 (by decide) ?_
    cases hf
    exact retd_z (by decide) hC hW hS (nfin hm) (nfin hn) dL_tells_180
  · have hf := if_of_neg hf c91
    refine lv_aload_n hx hb dL_tells_94 rfl (lv_at hl 4 rfl) ?_
    refine lv_iload hx hb dL_tells_95 (lv_at hl 2 rfl) ?_
    obtain ⟨q93, m94, n95, m96, n97, hcq93, hf, hem, hen⟩ := yb_of hf
    refine kdX_i (X := []) (rest := []) (q := q93) (by decide) hA hW hS (fun ad g0 hR hLX => by subst g0; exact ⟨_, vx_runV (As := [.int q76]) ⟨hx, hb, hml, hown, hts⟩ (mX5_equity l hst D dA ad q86.2.1 _ x mi q76 (.inr q93) m94 n95 hcq93) (cwV 1 hts gL_80 rfl rfl rfl (by decide +kernel) ⟨Nat.le_of_ble_eq_true rfl, Nat.le_of_ble_eq_true rfl⟩) (preVA_of hA hR hS hK hX hLX _) rfl rfl hl.1 rfl (lv_room (Nat.le_of_ble_eq_true rfl)) dL_tells_97 ⟨nle hm hem, nle hn hen⟩⟩) (fun H locs hW hS => ?_)
    have hm := nadd hm hem
    have hn := nadd hn hen
    refine lv_iload hx hb dL_tells_100 (lv_at hl 1 rfl) ?_
    refine lv_aload_n hx hb dL_tells_102 rfl (lv_at hl 4 rfl) ?_
    refine lv_iload hx hb dL_tells_103 (lv_at hl 2 rfl) ?_
    refine lv_iload hx hb dL_tells_105 (lv_at hl 7 rfl) ?_
    obtain ⟨q98, m99, n100, m101, n102, hcq98, hf, hem, hen⟩ := yb_of hf
    refine kdX_i (X := []) (rest := [.int q81.1, .int q93.1]) (q := q98) (by decide) hA hW hS (fun ad g0 hR hLX => by subst g0; exact ⟨_, vx_runV (As := [.int q76, .int v4]) ⟨hx, hb, hml, hown, hts⟩ (mX5_position l hst D dA ad q93.2 _ x mi q76 v4 (.inr q98) m99 n100 hcq98) (cwV 2 hts gL_74 rfl rfl rfl (by decide +kernel) ⟨Nat.le_of_ble_eq_true rfl, Nat.le_of_ble_eq_true rfl⟩) (preVA_of hA hR hS hK hX hLX _) rfl rfl hl.1 rfl (lv_room (Nat.le_of_ble_eq_true rfl)) dL_tells_107 ⟨nle hm hem, nle hn hen⟩⟩) (fun H locs hW hS => ?_)
    have hm := nadd hm hem
    have hn := nadd hn hen
    refine lv_iload hx hb dL_tells_110 (lv_at hl 3 rfl) ?_
    refine lv_iload hx hb dL_tells_112 (lv_at hl 0 rfl) ?_
    refine lv_isub hx hb dL_tells_114 ?_
    refine lv_imul hx hb dL_tells_115 ?_
    refine lv_iadd hx hb dL_tells_116 ?_
    refine lv_icmp_ne (tgt := 124) hx hb dL_tells_117 (by decide) (fun c103 => ?_) (fun c103 => ?_)
    · have hf := if_of_pos hf c103
      refine lv_iconst (v := 0) hx hb dL_tells_124 (by decide) ?_
      refine lv_istore (lv' := [(9, .int 0), (8, .int q86.1), (7, .int q81.1), (6, .int q76), (5, .int t0), (0, .ref h1), (1, .ref h2), (2, .int v2), (4, .int v4)]) hx hb dL_tells_125 hl (by decide) rfl (fun ls hl => ?_)
      refine lv_iload hx hb dL_tells_127 (lv_at hl 0 rfl) ?_
      refine lv_if_eq (tgt := 179) hx hb dL_tells_129 (by decide) (fun c104 => ?_) (fun c104 => absurd (by decide) c104)
      refine lv_iconst (v := 0) hx hb dL_tells_179 (by decide) ?_
      cases hf
      exact retd_z (by decide) hC hW hS (nfin hm) (nfin hn) dL_tells_180
    · have hf := if_of_neg hf (fun q => q c103)
      refine lv_iconst (v := 1) hx hb dL_tells_120 (by decide) ?_
      refine lv_goto (tgt := 125) hx hb dL_tells_121 (by decide) ?_
      refine lv_istore (lv' := [(9, .int 1), (8, .int q86.1), (7, .int q81.1), (6, .int q76), (5, .int t0), (0, .ref h1), (1, .ref h2), (2, .int v2), (4, .int v4)]) hx hb dL_tells_125 hl (by decide) rfl (fun ls hl => ?_)
      refine lv_iload hx hb dL_tells_127 (lv_at hl 0 rfl) ?_
      refine lv_if_eq (tgt := 179) hx hb dL_tells_129 (by decide) (fun c105 => absurd c105 (by decide)) (fun c105 => ?_)
      refine lv_aload_n hx hb dL_tells_132 rfl (lv_at hl 5 rfl) ?_
      refine lv_aload_n hx hb dL_tells_133 rfl (lv_at hl 6 rfl) ?_
      refine lv_iconst (v := 0) hx hb dL_tells_134 (by decide) ?_
      refine lv_iload hx hb dL_tells_135 (lv_at hl 8 rfl) ?_
      refine lv_iload hx hb dL_tells_137 (lv_at hl 1 rfl) ?_
      refine lv_iconst (v := 0) hx hb dL_tells_139 (by decide) ?_
      obtain ⟨q106, m107, n108, m109, n110, hcq106, hf, hem, hen⟩ := bt2_of hf
      refine kdD_i (rest := []) hS (va_runS (As := [.ref h1, .ref h2, .int 0, .int v4, .int q86.1, .int 0]) ⟨hx, hb, hml, hown, hts⟩ (mL_both l hst D dA x mi h1 h2 q98.2 q86.2.2 A0 _ 0 v4 q86.1 0 q106.1 q106.2.1 q106.2.2 m107 n108 hcq106) (va_cwS 6 hts gL_131 rfl rfl rfl (by decide +kernel) ⟨Nat.le_of_ble_eq_true rfl, Nat.le_of_ble_eq_true rfl⟩) (preD_of hA hW hS hK hX _) rfl rfl hl.1 rfl (lv_room (Nat.le_of_ble_eq_true rfl)) dL_tells_140 ⟨nle hm hem, nle hn hen⟩) (fun H locs hW hS => ?_)
      have hm := nadd hm hem
      have hn := nadd hn hen
      refine lv_iload hx hb dL_tells_143 (lv_at hl 4 rfl) ?_
      refine lv_icmp_ne (tgt := 179) hx hb dL_tells_145 (by decide) (fun c111 => ?_) (fun c111 => ?_)
      · have hf := if_of_pos hf c111
        refine lv_iconst (v := 0) hx hb dL_tells_179 (by decide) ?_
        cases hf
        exact retd_z (by decide) hC hW hS (nfin hm) (nfin hn) dL_tells_180
      · have hf := if_of_neg hf (fun q => q c111)
        refine lv_aload_n hx hb dL_tells_148 rfl (lv_at hl 5 rfl) ?_
        refine lv_iload hx hb dL_tells_149 (lv_at hl 3 rfl) ?_
        obtain ⟨q112, m113, n114, m115, n116, hcq112, hf, hem, hen⟩ := yb_of hf
        refine kdX_i (X := []) (rest := []) (q := q112) (by decide) hA hW hS (fun ad g0 hR hLX => by subst g0; exact ⟨_, vx_runV (As := [.int q76]) ⟨hx, hb, hml, hown, hts⟩ (mX5_equity l hst D dA ad q106.2.1 _ x mi q76 (.inr q112) m113 n114 hcq112) (cwV 1 hts gL_80 rfl rfl rfl (by decide +kernel) ⟨Nat.le_of_ble_eq_true rfl, Nat.le_of_ble_eq_true rfl⟩) (preVA_of hA hR hS hK hX hLX _) rfl rfl hl.1 rfl (lv_room (Nat.le_of_ble_eq_true rfl)) dL_tells_151 ⟨nle hm hem, nle hn hen⟩⟩) (fun H locs hW hS => ?_)
        have hm := nadd hm hem
        have hn := nadd hn hen
        refine lv_iload hx hb dL_tells_154 (lv_at hl 2 rfl) ?_
        refine lv_icmp_ne (tgt := 179) hx hb dL_tells_156 (by decide) (fun c117 => ?_) (fun c117 => ?_)
        · have hf := if_of_pos hf c117
          refine lv_iconst (v := 0) hx hb dL_tells_179 (by decide) ?_
          cases hf
          exact retd_z (by decide) hC hW hS (nfin hm) (nfin hn) dL_tells_180
        · have hf := if_of_neg hf (fun q => q c117)
          refine lv_aload_n hx hb dL_tells_159 rfl (lv_at hl 5 rfl) ?_
          refine lv_aload_n hx hb dL_tells_160 rfl (lv_at hl 6 rfl) ?_
          refine lv_iconst (v := 0) hx hb dL_tells_161 (by decide) ?_
          refine lv_iload hx hb dL_tells_162 (lv_at hl 8 rfl) ?_
          refine lv_iload hx hb dL_tells_164 (lv_at hl 4 rfl) ?_
          refine lv_iconst (v := 0) hx hb dL_tells_166 (by decide) ?_
          obtain ⟨q118, m119, n120, m121, n122, hcq118, hf, hem, hen⟩ := bt2_of hf
          refine kdD_i (rest := []) hS (va_runS (As := [.ref h1, .ref h2, .int 0, .int v4, .int t0, .int 0]) ⟨hx, hb, hml, hown, hts⟩ (mL_both l hst D dA x mi h1 h2 q112.2 q106.2.2 A0 _ 0 v4 t0 0 q118.1 q118.2.1 q118.2.2 m119 n120 hcq118) (va_cwS 6 hts gL_131 rfl rfl rfl (by decide +kernel) ⟨Nat.le_of_ble_eq_true rfl, Nat.le_of_ble_eq_true rfl⟩) (preD_of hA hW hS hK hX _) rfl rfl hl.1 rfl (lv_room (Nat.le_of_ble_eq_true rfl)) dL_tells_167 ⟨nle hm hem, nle hn hen⟩) (fun H locs hW hS => ?_)
          have hm := nadd hm hem
          have hn := nadd hn hen
          refine lv_iload hx hb dL_tells_170 (lv_at hl 1 rfl) ?_
          refine lv_icmp_ne (tgt := 179) hx hb dL_tells_172 (by decide) (fun c123 => ?_) (fun c123 => ?_)
          · have hf := if_of_pos hf c123
            refine lv_iconst (v := 0) hx hb dL_tells_179 (by decide) ?_
            cases hf
            exact retd_z (by decide) hC hW hS (nfin hm) (nfin hn) dL_tells_180
          · have hf := if_of_neg hf (fun q => q c123)
            refine lv_iconst (v := 1) hx hb dL_tells_175 (by decide) ?_
            refine lv_goto (tgt := 180) hx hb dL_tells_176 (by decide) ?_
            cases hf
            exact retd_z (by decide) hC hW hS (nfin hm) (nfin hn) dL_tells_180
def fL_tells (σ1 σ2 : St) (a3 : Int32) : Option ((Int32 × St × St) × Nat × Nat) := bd (fL_some σ1 a3 4) (fun q1 => bd (fL_some σ1 (a3 >>> (2 &&& 31)) 3) (fun q6 => if 2 ≤ q1 then if 3 ≤ q1 then bd (fL_some σ1 (a3 >>> (4 &&& 31)) 2) (fun q13 => bd (fL_some σ1 (a3 >>> (6 &&& 31)) 61) (fun q18 => bt2 (fL_both σ1 σ2 2 q13 (70 + q18) 0) (fun q23 => if q23.1 ≤ 9 then some ((0, q23.2.1, q23.2.2), 0, 0) else if 91 ≤ q23.1 then some ((0, q23.2.1, q23.2.2), 0, 0) else yb (fX5_haircut q23.2.1 q13) (fun q30 => if ¬ q30.1 = q23.1 then some ((0, q30.2, q23.2.2), 0, 0) else some ((1, q30.2, q23.2.2), 0, 0))))) else bd (fL_some σ1 (a3 >>> (6 &&& 31)) 51) (fun q36 => kst (q36 - 25) (fun x41 => bd (fL_some σ1 (a3 >>> (4 &&& 31)) 4) (fun q42 => bt2 (fL_both σ1 σ2 1 q42 q6 x41) (fun q47 => if q47.1 < (-500) then some ((0, q47.2.1, q47.2.2), 0, 0) else if 500 < q47.1 then some ((0, q47.2.1, q47.2.2), 0, 0) else bd (fL_some q47.2.1 (a3 >>> (4 &&& 31)) 4) (fun q54 => bt2 (fL_both q47.2.1 q47.2.2 1 q54 q6 x41) (fun q59 => if ¬ q59.1 = x41 then some ((0, q59.2.1, q59.2.2), 0, 0) else some ((1, q59.2.1, q59.2.2), 0, 0))))))) else bd (fL_some σ1 (a3 >>> (4 &&& 31)) 5) (fun q65 => if ¬ q65 = 0 then bd (fL_some σ1 (a3 >>> (7 &&& 31)) 41) (fun q71 => fL_tells_J57 σ1 σ2 a3 q6 (80 + q71)) else bd (fL_some σ1 (a3 >>> (7 &&& 31)) 400) (fun q124 => fL_tells_J57 σ1 σ2 a3 q6 (1 + q124)))))
set_option maxHeartbeats 4000000 in
set_option maxRecDepth 100000 in
theorem mL_tells (l : Launch) (hst : l.stackTraces = false) (D : va_G) (dA : Nat → ClassId) (x mi h1 h2 : Nat) (σ1 σ2 : St) (A0 : Nat → Prop) (sz : Nat) (a3 : Int32) (r : Int32) (σ1' σ2' : St) (mc ms : Nat) (hf : fL_tells σ1 σ2 a3 = some ((r, σ1', σ2'), mc, ms)) : Met l yL_tells (WSy yL_tells cL_tells 10 (some .boolean)) ({ frames := 14, cells := mc, slots := ms, locals := 351 } : Room) (va_Pc [.ref h1, .ref h2, .int a3] (Pre2 D dA x mi h1 h2 σ1 σ2 A0 sz)) (va_Qi (fun (z : Int32) (_ : Unit) => z = r) (fun _ t => W2 D dA x h1 h2 σ1' σ2' A0 t.heap) A0) mc ms A0 := by
  refine met_of (by decide) (Nat.le_of_ble_eq_true rfl) ?_
  intro p e s m below meth c ls hC hB hl
  obtain ⟨rfl, hA, hW, hK, hX⟩ := hB
  have hS : va_S A0 s.heap s.heap [] := va_S.rf
  have hC : CTX p s m _ meth c cL_tells 10 RL (some .boolean) := hC
  obtain ⟨hx, hb, hml, hown, hts, hr, hlk⟩ := id hC
  have hl : lv_has ls 10 [(0, .ref h1), (1, .ref h2), (2, .int a3)] := hl
  have hm : mc = 0 + mc := (Nat.zero_add mc).symm
  have hn : ms = 0 + ms := (Nat.zero_add ms).symm
  unfold fL_tells at hf
  refine lv_iload_n hx hb dL_tells_0 rfl (lv_at hl 2 rfl) ?_
  refine lv_iconst (v := 4) hx hb dL_tells_1 (by decide) ?_
  obtain ⟨q1, hcq1, hf⟩ := bd_of hf
  refine kdP_i (rest := []) (r := q1) (σ' := σ1) ⟨rfl, rfl, rfl, rfl, rfl, rfl, rfl⟩ hA hW hS (fun ad g0 hR => by subst g0; exact ⟨_, va_runS (As := [.int a3, .int 4]) ⟨hx, hb, hml, hown, hts⟩ (mL_some l D dA ad σ1 _ a3 4 q1 hcq1) (va_cwS 2 hts gL_128 rfl rfl rfl (by decide +kernel) ⟨Nat.le_of_ble_eq_true rfl, Nat.le_of_ble_eq_true rfl⟩) (preS_of hR hK _) rfl rfl hl.1 rfl (lv_room (Nat.le_of_ble_eq_true rfl)) dL_tells_2 ⟨nle0 hm, nle0 hn⟩⟩) (fun H locs hW hS => ?_)
  refine lv_istore_n (lv' := [(3, .int q1), (0, .ref h1), (1, .ref h2), (2, .int a3)]) hx hb dL_tells_5 rfl hl (by decide) rfl (fun ls hl => ?_)
  refine lv_iload_n hx hb dL_tells_6 rfl (lv_at hl 3 rfl) ?_
  refine lv_iconst (v := 2) hx hb dL_tells_7 (by decide) ?_
  refine lv_ishr hx hb dL_tells_8 ?_
  refine lv_iconst (v := 3) hx hb dL_tells_9 (by decide) ?_
  obtain ⟨q6, hcq6, hf⟩ := bd_of hf
  refine kdP_i (rest := []) (r := q6) (σ' := σ1) ⟨rfl, rfl, rfl, rfl, rfl, rfl, rfl⟩ hA hW hS (fun ad g0 hR => by subst g0; exact ⟨_, va_runS (As := [.int (a3 >>> (2 &&& 31)), .int 3]) ⟨hx, hb, hml, hown, hts⟩ (mL_some l D dA ad σ1 _ (a3 >>> (2 &&& 31)) 3 q6 hcq6) (va_cwS 2 hts gL_128 rfl rfl rfl (by decide +kernel) ⟨Nat.le_of_ble_eq_true rfl, Nat.le_of_ble_eq_true rfl⟩) (preS_of hR hK _) rfl rfl hl.1 rfl (lv_room (Nat.le_of_ble_eq_true rfl)) dL_tells_10 ⟨nle0 hm, nle0 hn⟩⟩) (fun H locs hW hS => ?_)
  refine lv_istore (lv' := [(4, .int q6), (3, .int q1), (0, .ref h1), (1, .ref h2), (2, .int a3)]) hx hb dL_tells_13 hl (by decide) rfl (fun ls hl => ?_)
  refine lv_iload_n hx hb dL_tells_15 rfl (lv_at hl 1 rfl) ?_
  refine lv_iconst (v := 2) hx hb dL_tells_16 (by decide) ?_
  refine lv_icmp_ge (tgt := 181) hx hb dL_tells_17 (by decide) (fun c11 => ?_) (fun c11 => ?_)
  · have hf := if_of_pos hf c11
    refine lv_iload_n hx hb dL_tells_181 rfl (lv_at hl 1 rfl) ?_
    refine lv_iconst (v := 3) hx hb dL_tells_182 (by decide) ?_
    refine lv_icmp_ge (tgt := 263) hx hb dL_tells_183 (by decide) (fun c12 => ?_) (fun c12 => ?_)
    · have hf := if_of_pos hf c12
      refine lv_iload_n hx hb dL_tells_263 rfl (lv_at hl 4 rfl) ?_
      refine lv_iconst (v := 4) hx hb dL_tells_264 (by decide) ?_
      refine lv_ishr hx hb dL_tells_265 ?_
      refine lv_iconst (v := 2) hx hb dL_tells_266 (by decide) ?_
      obtain ⟨q13, hcq13, hf⟩ := bd_of hf
      refine kdP_i (rest := []) (r := q13) (σ' := σ1) ⟨rfl, rfl, rfl, rfl, rfl, rfl, rfl⟩ hA hW hS (fun ad g0 hR => by subst g0; exact ⟨_, va_runS (As := [.int (a3 >>> (4 &&& 31)), .int 2]) ⟨hx, hb, hml, hown, hts⟩ (mL_some l D dA ad σ1 _ (a3 >>> (4 &&& 31)) 2 q13 hcq13) (va_cwS 2 hts gL_128 rfl rfl rfl (by decide +kernel) ⟨Nat.le_of_ble_eq_true rfl, Nat.le_of_ble_eq_true rfl⟩) (preS_of hR hK _) rfl rfl hl.1 rfl (lv_room (Nat.le_of_ble_eq_true rfl)) dL_tells_267 ⟨nle0 hm, nle0 hn⟩⟩) (fun H locs hW hS => ?_)
      refine lv_istore (lv' := [(5, .int q13), (4, .int q6), (3, .int q1), (0, .ref h1), (1, .ref h2), (2, .int a3)]) hx hb dL_tells_270 hl (by decide) rfl (fun ls hl => ?_)
      refine lv_aload_n hx hb dL_tells_272 rfl (lv_at hl 3 rfl) ?_
      refine lv_aload_n hx hb dL_tells_273 rfl (lv_at hl 4 rfl) ?_
      refine lv_iconst (v := 2) hx hb dL_tells_274 (by decide) ?_
      refine lv_iload hx hb dL_tells_275 (lv_at hl 0 rfl) ?_
      refine lv_bipush (v := 70) hx hb dL_tells_277 (by decide) ?_
      refine lv_iload_n hx hb dL_tells_279 rfl (lv_at hl 5 rfl) ?_
      refine lv_bipush (v := 6) hx hb dL_tells_280 (by decide) ?_
      refine lv_ishr hx hb dL_tells_282 ?_
      refine lv_bipush (v := 61) hx hb dL_tells_283 (by decide) ?_
      obtain ⟨q18, hcq18, hf⟩ := bd_of hf
      refine kdP_i (rest := [.int 70, .int q13, .int 2, .ref h2, .ref h1]) (r := q18) (σ' := σ1) ⟨rfl, rfl, rfl, rfl, rfl, rfl, rfl⟩ hA hW hS (fun ad g0 hR => by subst g0; exact ⟨_, va_runS (As := [.int (a3 >>> (6 &&& 31)), .int 61]) ⟨hx, hb, hml, hown, hts⟩ (mL_some l D dA ad σ1 _ (a3 >>> (6 &&& 31)) 61 q18 hcq18) (va_cwS 2 hts gL_128 rfl rfl rfl (by decide +kernel) ⟨Nat.le_of_ble_eq_true rfl, Nat.le_of_ble_eq_true rfl⟩) (preS_of hR hK _) rfl rfl hl.1 rfl (lv_room (Nat.le_of_ble_eq_true rfl)) dL_tells_285 ⟨nle0 hm, nle0 hn⟩⟩) (fun H locs hW hS => ?_)
      refine lv_iadd hx hb dL_tells_288 ?_
      refine lv_iconst (v := 0) hx hb dL_tells_289 (by decide) ?_
      obtain ⟨q23, m24, n25, m26, n27, hcq23, hf, hem, hen⟩ := bt2_of hf
      refine kdD_i (rest := []) hS (va_runS (As := [.ref h1, .ref h2, .int 2, .int q13, .int (70 + q18), .int 0]) ⟨hx, hb, hml, hown, hts⟩ (mL_both l hst D dA x mi h1 h2 σ1 σ2 A0 _ 2 q13 (70 + q18) 0 q23.1 q23.2.1 q23.2.2 m24 n25 hcq23) (va_cwS 6 hts gL_131 rfl rfl rfl (by decide +kernel) ⟨Nat.le_of_ble_eq_true rfl, Nat.le_of_ble_eq_true rfl⟩) (preD_of hA hW hS hK hX _) rfl rfl hl.1 rfl (lv_room (Nat.le_of_ble_eq_true rfl)) dL_tells_290 ⟨nle hm hem, nle hn hen⟩) (fun H locs hW hS => ?_)
      have hm := nadd hm hem
      have hn := nadd hn hen
      refine lv_istore (lv' := [(6, .int q23.1), (5, .int q13), (4, .int q6), (3, .int q1), (0, .ref h1), (1, .ref h2), (2, .int a3)]) hx hb dL_tells_293 hl (by decide) rfl (fun ls hl => ?_)
      refine lv_iload hx hb dL_tells_295 (lv_at hl 0 rfl) ?_
      refine lv_bipush (v := 9) hx hb dL_tells_297 (by decide) ?_
      refine lv_icmp_le (tgt := 324) hx hb dL_tells_299 (by decide) (fun c28 => ?_) (fun c28 => ?_)
      · have hf := if_of_pos hf c28
        refine lv_iconst (v := 0) hx hb dL_tells_324 (by decide) ?_
        cases hf
        exact retd_z (by decide) hC hW hS (nfin hm) (nfin hn) dL_tells_325
      · have hf := if_of_neg hf c28
        refine lv_iload hx hb dL_tells_302 (lv_at hl 0 rfl) ?_
        refine lv_bipush (v := 91) hx hb dL_tells_304 (by decide) ?_
        refine lv_icmp_ge (tgt := 324) hx hb dL_tells_306 (by decide) (fun c29 => ?_) (fun c29 => ?_)
        · have hf := if_of_pos hf c29
          refine lv_iconst (v := 0) hx hb dL_tells_324 (by decide) ?_
          cases hf
          exact retd_z (by decide) hC hW hS (nfin hm) (nfin hn) dL_tells_325
        · have hf := if_of_neg hf c29
          refine lv_aload_n hx hb dL_tells_309 rfl (lv_at hl 4 rfl) ?_
          refine lv_iload hx hb dL_tells_310 (lv_at hl 1 rfl) ?_
          obtain ⟨q30, m31, n32, m33, n34, hcq30, hf, hem, hen⟩ := yb_of hf
          refine kdX_i (X := []) (rest := []) (q := q30) (by decide) hA hW hS (fun ad g0 hR hLX => by subst g0; exact ⟨_, vx_runV (As := [.int q13]) ⟨hx, hb, hml, hown, hts⟩ (mX5_haircut l hst D dA ad q23.2.1 _ x mi q13 (.inr q30) m31 n32 hcq30) (cwV 1 hts gL_89 rfl rfl rfl (by decide +kernel) ⟨Nat.le_of_ble_eq_true rfl, Nat.le_of_ble_eq_true rfl⟩) (preVA_of hA hR hS hK hX hLX _) rfl rfl hl.1 rfl (lv_room (Nat.le_of_ble_eq_true rfl)) dL_tells_312 ⟨nle hm hem, nle hn hen⟩⟩) (fun H locs hW hS => ?_)
          have hm := nadd hm hem
          have hn := nadd hn hen
          refine lv_iload hx hb dL_tells_315 (lv_at hl 0 rfl) ?_
          refine lv_icmp_ne (tgt := 324) hx hb dL_tells_317 (by decide) (fun c35 => ?_) (fun c35 => ?_)
          · have hf := if_of_pos hf c35
            refine lv_iconst (v := 0) hx hb dL_tells_324 (by decide) ?_
            cases hf
            exact retd_z (by decide) hC hW hS (nfin hm) (nfin hn) dL_tells_325
          · have hf := if_of_neg hf (fun q => q c35)
            refine lv_iconst (v := 1) hx hb dL_tells_320 (by decide) ?_
            refine lv_goto (tgt := 325) hx hb dL_tells_321 (by decide) ?_
            cases hf
            exact retd_z (by decide) hC hW hS (nfin hm) (nfin hn) dL_tells_325
    · have hf := if_of_neg hf c12
      refine lv_iload_n hx hb dL_tells_186 rfl (lv_at hl 4 rfl) ?_
      refine lv_bipush (v := 6) hx hb dL_tells_187 (by decide) ?_
      refine lv_ishr hx hb dL_tells_189 ?_
      refine lv_bipush (v := 51) hx hb dL_tells_190 (by decide) ?_
      obtain ⟨q36, hcq36, hf⟩ := bd_of hf
      refine kdP_i (rest := []) (r := q36) (σ' := σ1) ⟨rfl, rfl, rfl, rfl, rfl, rfl, rfl⟩ hA hW hS (fun ad g0 hR => by subst g0; exact ⟨_, va_runS (As := [.int (a3 >>> (6 &&& 31)), .int 51]) ⟨hx, hb, hml, hown, hts⟩ (mL_some l D dA ad σ1 _ (a3 >>> (6 &&& 31)) 51 q36 hcq36) (va_cwS 2 hts gL_128 rfl rfl rfl (by decide +kernel) ⟨Nat.le_of_ble_eq_true rfl, Nat.le_of_ble_eq_true rfl⟩) (preS_of hR hK _) rfl rfl hl.1 rfl (lv_room (Nat.le_of_ble_eq_true rfl)) dL_tells_192 ⟨nle0 hm, nle0 hn⟩⟩) (fun H locs hW hS => ?_)
      refine lv_bipush (v := 25) hx hb dL_tells_195 (by decide) ?_
      refine lv_isub hx hb dL_tells_197 ?_
      refine lv_topi (fun x41 hx41 => ?_)
      have hf := kst_eq hx41 hf
      refine lv_istore (lv' := [(5, .int x41), (4, .int q6), (3, .int q1), (0, .ref h1), (1, .ref h2), (2, .int a3)]) hx hb dL_tells_198 hl (by decide) rfl (fun ls hl => ?_)
      refine lv_aload_n hx hb dL_tells_200 rfl (lv_at hl 3 rfl) ?_
      refine lv_aload_n hx hb dL_tells_201 rfl (lv_at hl 4 rfl) ?_
      refine lv_iconst (v := 1) hx hb dL_tells_202 (by decide) ?_
      refine lv_iload_n hx hb dL_tells_203 rfl (lv_at hl 5 rfl) ?_
      refine lv_iconst (v := 4) hx hb dL_tells_204 (by decide) ?_
      refine lv_ishr hx hb dL_tells_205 ?_
      refine lv_iconst (v := 4) hx hb dL_tells_206 (by decide) ?_
      obtain ⟨q42, hcq42, hf⟩ := bd_of hf
      refine kdP_i (rest := [.int 1, .ref h2, .ref h1]) (r := q42) (σ' := σ1) ⟨rfl, rfl, rfl, rfl, rfl, rfl, rfl⟩ hA hW hS (fun ad g0 hR => by subst g0; exact ⟨_, va_runS (As := [.int (a3 >>> (4 &&& 31)), .int 4]) ⟨hx, hb, hml, hown, hts⟩ (mL_some l D dA ad σ1 _ (a3 >>> (4 &&& 31)) 4 q42 hcq42) (va_cwS 2 hts gL_128 rfl rfl rfl (by decide +kernel) ⟨Nat.le_of_ble_eq_true rfl, Nat.le_of_ble_eq_true rfl⟩) (preS_of hR hK _) rfl rfl hl.1 rfl (lv_room (Nat.le_of_ble_eq_true rfl)) dL_tells_207 ⟨nle0 hm, nle0 hn⟩⟩) (fun H locs hW hS => ?_)
      refine lv_iload hx hb dL_tells_210 (lv_at hl 1 rfl) ?_
      refine lv_iload hx hb dL_tells_212 (lv_at hl 0 rfl) ?_
      obtain ⟨q47, m48, n49, m50, n51, hcq47, hf, hem, hen⟩ := bt2_of hf
      refine kdD_i (rest := []) hS (va_runS (As := [.ref h1, .ref h2, .int 1, .int q42, .int q6, .int x41]) ⟨hx, hb, hml, hown, hts⟩ (mL_both l hst D dA x mi h1 h2 σ1 σ2 A0 _ 1 q42 q6 x41 q47.1 q47.2.1 q47.2.2 m48 n49 hcq47) (va_cwS 6 hts gL_131 rfl rfl rfl (by decide +kernel) ⟨Nat.le_of_ble_eq_true rfl, Nat.le_of_ble_eq_true rfl⟩) (preD_of hA hW hS hK hX _) rfl rfl hl.1 rfl (lv_room (Nat.le_of_ble_eq_true rfl)) dL_tells_214 ⟨nle hm hem, nle hn hen⟩) (fun H locs hW hS => ?_)
      have hm := nadd hm hem
      have hn := nadd hn hen
      refine lv_istore (lv' := [(6, .int q47.1), (5, .int x41), (4, .int q6), (3, .int q1), (0, .ref h1), (1, .ref h2), (2, .int a3)]) hx hb dL_tells_217 hl (by decide) rfl (fun ls hl => ?_)
      refine lv_iload hx hb dL_tells_219 (lv_at hl 0 rfl) ?_
      refine lv_sipush (v := (-500)) hx hb dL_tells_221 (by decide) ?_
      refine lv_icmp_lt (tgt := 261) hx hb dL_tells_224 (by decide) (fun c52 => ?_) (fun c52 => ?_)
      · have hf := if_of_pos hf c52
        refine lv_iconst (v := 0) hx hb dL_tells_261 (by decide) ?_
        cases hf
        exact retd_z (by decide) hC hW hS (nfin hm) (nfin hn) dL_tells_262
      · have hf := if_of_neg hf c52
        refine lv_iload hx hb dL_tells_227 (lv_at hl 0 rfl) ?_
        refine lv_sipush (v := 500) hx hb dL_tells_229 (by decide) ?_
        refine lv_icmp_gt (tgt := 261) hx hb dL_tells_232 (by decide) (fun c53 => ?_) (fun c53 => ?_)
        · have hf := if_of_pos hf c53
          refine lv_iconst (v := 0) hx hb dL_tells_261 (by decide) ?_
          cases hf
          exact retd_z (by decide) hC hW hS (nfin hm) (nfin hn) dL_tells_262
        · have hf := if_of_neg hf c53
          refine lv_aload_n hx hb dL_tells_235 rfl (lv_at hl 4 rfl) ?_
          refine lv_aload_n hx hb dL_tells_236 rfl (lv_at hl 5 rfl) ?_
          refine lv_iconst (v := 1) hx hb dL_tells_237 (by decide) ?_
          refine lv_iload_n hx hb dL_tells_238 rfl (lv_at hl 6 rfl) ?_
          refine lv_iconst (v := 4) hx hb dL_tells_239 (by decide) ?_
          refine lv_ishr hx hb dL_tells_240 ?_
          refine lv_iconst (v := 4) hx hb dL_tells_241 (by decide) ?_
          obtain ⟨q54, hcq54, hf⟩ := bd_of hf
          refine kdP_i (rest := [.int 1, .ref h2, .ref h1]) (r := q54) (σ' := q47.2.1) ⟨rfl, rfl, rfl, rfl, rfl, rfl, rfl⟩ hA hW hS (fun ad g0 hR => by subst g0; exact ⟨_, va_runS (As := [.int (a3 >>> (4 &&& 31)), .int 4]) ⟨hx, hb, hml, hown, hts⟩ (mL_some l D dA ad q47.2.1 _ (a3 >>> (4 &&& 31)) 4 q54 hcq54) (va_cwS 2 hts gL_128 rfl rfl rfl (by decide +kernel) ⟨Nat.le_of_ble_eq_true rfl, Nat.le_of_ble_eq_true rfl⟩) (preS_of hR hK _) rfl rfl hl.1 rfl (lv_room (Nat.le_of_ble_eq_true rfl)) dL_tells_242 ⟨nle0 hm, nle0 hn⟩⟩) (fun H locs hW hS => ?_)
          refine lv_iload hx hb dL_tells_245 (lv_at hl 2 rfl) ?_
          refine lv_iload hx hb dL_tells_247 (lv_at hl 1 rfl) ?_
          obtain ⟨q59, m60, n61, m62, n63, hcq59, hf, hem, hen⟩ := bt2_of hf
          refine kdD_i (rest := []) hS (va_runS (As := [.ref h1, .ref h2, .int 1, .int q54, .int q6, .int x41]) ⟨hx, hb, hml, hown, hts⟩ (mL_both l hst D dA x mi h1 h2 q47.2.1 q47.2.2 A0 _ 1 q54 q6 x41 q59.1 q59.2.1 q59.2.2 m60 n61 hcq59) (va_cwS 6 hts gL_131 rfl rfl rfl (by decide +kernel) ⟨Nat.le_of_ble_eq_true rfl, Nat.le_of_ble_eq_true rfl⟩) (preD_of hA hW hS hK hX _) rfl rfl hl.1 rfl (lv_room (Nat.le_of_ble_eq_true rfl)) dL_tells_249 ⟨nle hm hem, nle hn hen⟩) (fun H locs hW hS => ?_)
          have hm := nadd hm hem
          have hn := nadd hn hen
          refine lv_iload hx hb dL_tells_252 (lv_at hl 1 rfl) ?_
          refine lv_icmp_ne (tgt := 261) hx hb dL_tells_254 (by decide) (fun c64 => ?_) (fun c64 => ?_)
          · have hf := if_of_pos hf c64
            refine lv_iconst (v := 0) hx hb dL_tells_261 (by decide) ?_
            cases hf
            exact retd_z (by decide) hC hW hS (nfin hm) (nfin hn) dL_tells_262
          · have hf := if_of_neg hf (fun q => q c64)
            refine lv_iconst (v := 1) hx hb dL_tells_257 (by decide) ?_
            refine lv_goto (tgt := 262) hx hb dL_tells_258 (by decide) ?_
            cases hf
            exact retd_z (by decide) hC hW hS (nfin hm) (nfin hn) dL_tells_262
  · have hf := if_of_neg hf c11
    refine lv_iload_n hx hb dL_tells_20 rfl (lv_at hl 4 rfl) ?_
    refine lv_iconst (v := 4) hx hb dL_tells_21 (by decide) ?_
    refine lv_ishr hx hb dL_tells_22 ?_
    refine lv_iconst (v := 5) hx hb dL_tells_23 (by decide) ?_
    obtain ⟨q65, hcq65, hf⟩ := bd_of hf
    refine kdP_i (rest := []) (r := q65) (σ' := σ1) ⟨rfl, rfl, rfl, rfl, rfl, rfl, rfl⟩ hA hW hS (fun ad g0 hR => by subst g0; exact ⟨_, va_runS (As := [.int (a3 >>> (4 &&& 31)), .int 5]) ⟨hx, hb, hml, hown, hts⟩ (mL_some l D dA ad σ1 _ (a3 >>> (4 &&& 31)) 5 q65 hcq65) (va_cwS 2 hts gL_128 rfl rfl rfl (by decide +kernel) ⟨Nat.le_of_ble_eq_true rfl, Nat.le_of_ble_eq_true rfl⟩) (preS_of hR hK _) rfl rfl hl.1 rfl (lv_room (Nat.le_of_ble_eq_true rfl)) dL_tells_24 ⟨nle0 hm, nle0 hn⟩⟩) (fun H locs hW hS => ?_)
    refine lv_if_ne (tgt := 45) hx hb dL_tells_27 (by decide) (fun c70 => ?_) (fun c70 => ?_)
    · have hf := if_of_pos hf c70
      refine lv_bipush (v := 80) hx hb dL_tells_45 (by decide) ?_
      refine lv_iload_n hx hb dL_tells_47 rfl (lv_at hl 4 rfl) ?_
      refine lv_bipush (v := 7) hx hb dL_tells_48 (by decide) ?_
      refine lv_ishr hx hb dL_tells_50 ?_
      refine lv_bipush (v := 41) hx hb dL_tells_51 (by decide) ?_
      obtain ⟨q71, hcq71, hf⟩ := bd_of hf
      refine kdP_i (rest := [.int 80]) (r := q71) (σ' := σ1) ⟨rfl, rfl, rfl, rfl, rfl, rfl, rfl⟩ hA hW hS (fun ad g0 hR => by subst g0; exact ⟨_, va_runS (As := [.int (a3 >>> (7 &&& 31)), .int 41]) ⟨hx, hb, hml, hown, hts⟩ (mL_some l D dA ad σ1 _ (a3 >>> (7 &&& 31)) 41 q71 hcq71) (va_cwS 2 hts gL_128 rfl rfl rfl (by decide +kernel) ⟨Nat.le_of_ble_eq_true rfl, Nat.le_of_ble_eq_true rfl⟩) (preS_of hR hK _) rfl rfl hl.1 rfl (lv_room (Nat.le_of_ble_eq_true rfl)) dL_tells_53 ⟨nle0 hm, nle0 hn⟩⟩) (fun H locs hW hS => ?_)
      refine lv_iadd hx hb dL_tells_56 ?_
      exact wL_tells_J57 hC hK hA hX hst _ _ _ _ _ _ _ σ1 σ2 a3 q6 (80 + q71) hm hn hW hS (lv_sub hl [2, 3, 4, 0] rfl) hf
    · have hf := if_of_neg hf (fun q => q c70)
      refine lv_iconst (v := 1) hx hb dL_tells_30 (by decide) ?_
      refine lv_iload_n hx hb dL_tells_31 rfl (lv_at hl 4 rfl) ?_
      refine lv_bipush (v := 7) hx hb dL_tells_32 (by decide) ?_
      refine lv_ishr hx hb dL_tells_34 ?_
      refine lv_sipush (v := 400) hx hb dL_tells_35 (by decide) ?_
      obtain ⟨q124, hcq124, hf⟩ := bd_of hf
      refine kdP_i (rest := [.int 1]) (r := q124) (σ' := σ1) ⟨rfl, rfl, rfl, rfl, rfl, rfl, rfl⟩ hA hW hS (fun ad g0 hR => by subst g0; exact ⟨_, va_runS (As := [.int (a3 >>> (7 &&& 31)), .int 400]) ⟨hx, hb, hml, hown, hts⟩ (mL_some l D dA ad σ1 _ (a3 >>> (7 &&& 31)) 400 q124 hcq124) (va_cwS 2 hts gL_128 rfl rfl rfl (by decide +kernel) ⟨Nat.le_of_ble_eq_true rfl, Nat.le_of_ble_eq_true rfl⟩) (preS_of hR hK _) rfl rfl hl.1 rfl (lv_room (Nat.le_of_ble_eq_true rfl)) dL_tells_38 ⟨nle0 hm, nle0 hn⟩⟩) (fun H locs hW hS => ?_)
      refine lv_iadd hx hb dL_tells_41 ?_
      refine lv_goto (tgt := 57) hx hb dL_tells_42 (by decide) ?_
      exact wL_tells_J57 hC hK hA hX hst _ _ _ _ _ _ _ σ1 σ2 a3 q6 (1 + q124) hm hn hW hS (lv_sub hl [2, 3, 4, 0] rfl) hf
def fL_pays (σ1 σ2 : St) (a3 : Int32) (a4 : Int32) : Option ((Int32 × St × St) × Nat × Nat) := bd (fL_some σ1 a4 6) (fun q1 => bd (fL_some σ1 (a4 >>> (3 &&& 31)) 5) (fun q6 => bt2 (fL_all σ1 a3) (fun q11 => yb (fX5_hasFailed q11.2 q6) (fun q16 => if 3 ≤ q1 then if 5 ≤ q1 then yb (fX5_share q16.2 q6) (fun q23 => bd (fL_some q23.2 (a4 >>> (6 &&& 31)) 300) (fun q28 => kst (1 + q28) (fun x33 => yb (fX5_cash q23.2 q6) (fun q34 => bt2 (fL_both q34.2 σ2 5 q6 x33 0) (fun q39 => if q16.1 = 0 then if ¬ q39.1 = (q23.1 + x33) then some ((0, q39.2.1, q39.2.2), 0, 0) else yb (fX5_share q39.2.1 q6) (fun q46 => if ¬ q46.1 = q39.1 then some ((0, q46.2, q39.2.2), 0, 0) else yb (fX5_cash q46.2 q6) (fun q52 => if ¬ q52.1 = q34.1 then some ((0, q52.2, q39.2.2), 0, 0) else some ((1, q52.2, q39.2.2), 0, 0))) else if ¬ q39.1 = (-2000000003) then some ((0, q39.2.1, q39.2.2), 0, 0) else bt2 (fL_all q39.2.1 a3) (fun q59 => if ¬ q59.1 = q11.1 then some ((0, q59.2, q39.2.2), 0, 0) else some ((1, q59.2, q39.2.2), 0, 0))))))) else bd (fL_some q16.2 (a4 >>> (6 &&& 31)) 2) (fun q65 => bd (fL_some q16.2 (a4 >>> (7 &&& 31)) 31) (fun q70 => kst (q70 - 12) (fun x75 => yb (fX5_free q16.2 q6) (fun q76 => yb (fX5_collateral q76.2 q6) (fun q81 => bt2 (fL_both q81.2 σ2 4 q6 q65 x75) (fun q86 => if ¬ q86.1 = (-2000000003) then if ¬ q16.1 = 0 then some ((0, q86.2.1, q86.2.2), 0, 0) else if q86.1 < 0 then some ((0, q86.2.1, q86.2.2), 0, 0) else if 1000 < q86.1 then some ((0, q86.2.1, q86.2.2), 0, 0) else yb (fX5_free q86.2.1 q6) (fun q95 => yb (fX5_collateral q95.2 q6) (fun q100 => if ¬ (q95.1 - q76.1) = (q100.1 - q81.1) then some ((0, q100.2, q86.2.2), 0, 0) else if 0 ≤ x75 then if 0 ≤ x75 then yb (fX5_collateral q100.2 q6) (fun q108 => if q108.1 < q81.1 then some ((0, q108.2, q86.2.2), 0, 0) else some ((1, q108.2, q86.2.2), 0, 0)) else yb (fX5_collateral q100.2 q6) (fun q114 => if q81.1 < q114.1 then some ((0, q114.2, q86.2.2), 0, 0) else some ((1, q114.2, q86.2.2), 0, 0)) else yb (fX5_free q100.2 q6) (fun q120 => if q120.1 < 0 then some ((0, q120.2, q86.2.2), 0, 0) else if 0 ≤ x75 then yb (fX5_collateral q120.2 q6) (fun q127 => if q127.1 < q81.1 then some ((0, q127.2, q86.2.2), 0, 0) else some ((1, q127.2, q86.2.2), 0, 0)) else yb (fX5_collateral q120.2 q6) (fun q133 => if q81.1 < q133.1 then some ((0, q133.2, q86.2.2), 0, 0) else some ((1, q133.2, q86.2.2), 0, 0))))) else bt2 (fL_all q86.2.1 a3) (fun q139 => if ¬ q139.1 = q11.1 then some ((0, q139.2, q86.2.2), 0, 0) else if ¬ q16.1 = 0 then some ((1, q139.2, q86.2.2), 0, 0) else if x75 = 0 then some ((0, q139.2, q86.2.2), 0, 0) else some ((1, q139.2, q86.2.2), 0, 0)))))))) else bd (fL_some q16.2 (a4 >>> (6 &&& 31)) 2001) (fun q147 => kst (q147 - 900) (fun x152 => yb (fX5_cash q16.2 q6) (fun q153 => yb (fX5_free q153.2 q6) (fun q158 => bt2 (fL_both q158.2 σ2 3 q6 x152 0) (fun q163 => if ¬ q16.1 = 0 then if ¬ q163.1 = (-2000000003) then some ((0, q163.2.1, q163.2.2), 0, 0) else bt2 (fL_all q163.2.1 a3) (fun q171 => if ¬ q171.1 = q11.1 then some ((0, q171.2, q163.2.2), 0, 0) else some ((1, q171.2, q163.2.2), 0, 0)) else if 0 ≤ x152 then if ¬ q163.1 = (q153.1 + x152) then some ((0, q163.2.1, q163.2.2), 0, 0) else yb (fX5_cash q163.2.1 q6) (fun q180 => if ¬ q180.1 = q163.1 then some ((0, q180.2, q163.2.2), 0, 0) else yb (fX5_free q180.2 q6) (fun q186 => if ¬ q186.1 = (q158.1 + x152) then some ((0, q186.2, q163.2.2), 0, 0) else some ((1, q186.2, q163.2.2), 0, 0))) else if (q158.1 + x152) < 0 then if ¬ q163.1 = (-2000000003) then some ((0, q163.2.1, q163.2.2), 0, 0) else bt2 (fL_all q163.2.1 a3) (fun q195 => if ¬ q195.1 = q11.1 then some ((0, q195.2, q163.2.2), 0, 0) else some ((1, q195.2, q163.2.2), 0, 0)) else if ¬ q163.1 = (q153.1 + x152) then some ((0, q163.2.1, q163.2.2), 0, 0) else yb (fX5_cash q163.2.1 q6) (fun q203 => if ¬ q203.1 = q163.1 then some ((0, q203.2, q163.2.2), 0, 0) else yb (fX5_free q203.2 q6) (fun q209 => if ¬ q209.1 = (q158.1 + x152) then some ((0, q209.2, q163.2.2), 0, 0) else some ((1, q209.2, q163.2.2), 0, 0))))))))))))
set_option maxHeartbeats 4000000 in
set_option maxRecDepth 100000 in
theorem mL_pays (l : Launch) (hst : l.stackTraces = false) (D : va_G) (dA : Nat → ClassId) (x mi h1 h2 : Nat) (σ1 σ2 : St) (A0 : Nat → Prop) (sz : Nat) (a3 : Int32) (a4 : Int32) (r : Int32) (σ1' σ2' : St) (mc ms : Nat) (hf : fL_pays σ1 σ2 a3 a4 = some ((r, σ1', σ2'), mc, ms)) : Met l yL_pays (WSy yL_pays cL_pays 14 (some .boolean)) ({ frames := 14, cells := mc, slots := ms, locals := 351 } : Room) (va_Pc [.ref h1, .ref h2, .int a3, .int a4] (Pre2 D dA x mi h1 h2 σ1 σ2 A0 sz)) (va_Qi (fun (z : Int32) (_ : Unit) => z = r) (fun _ t => W2 D dA x h1 h2 σ1' σ2' A0 t.heap) A0) mc ms A0 := by
  refine met_of (by decide) (Nat.le_of_ble_eq_true rfl) ?_
  intro p e s m below meth c ls hC hB hl
  obtain ⟨rfl, hA, hW, hK, hX⟩ := hB
  have hS : va_S A0 s.heap s.heap [] := va_S.rf
  have hC : CTX p s m _ meth c cL_pays 14 RL (some .boolean) := hC
  obtain ⟨hx, hb, hml, hown, hts, hr, hlk⟩ := id hC
  have hl : lv_has ls 14 [(0, .ref h1), (1, .ref h2), (2, .int a3), (3, .int a4)] := hl
  have hm : mc = 0 + mc := (Nat.zero_add mc).symm
  have hn : ms = 0 + ms := (Nat.zero_add ms).symm
  unfold fL_pays at hf
  refine lv_iload_n hx hb dL_pays_0 rfl (lv_at hl 3 rfl) ?_
  refine lv_bipush (v := 6) hx hb dL_pays_1 (by decide) ?_
  obtain ⟨q1, hcq1, hf⟩ := bd_of hf
  refine kdP_i (rest := []) (r := q1) (σ' := σ1) ⟨rfl, rfl, rfl, rfl, rfl, rfl, rfl⟩ hA hW hS (fun ad g0 hR => by subst g0; exact ⟨_, va_runS (As := [.int a4, .int 6]) ⟨hx, hb, hml, hown, hts⟩ (mL_some l D dA ad σ1 _ a4 6 q1 hcq1) (va_cwS 2 hts gL_128 rfl rfl rfl (by decide +kernel) ⟨Nat.le_of_ble_eq_true rfl, Nat.le_of_ble_eq_true rfl⟩) (preS_of hR hK _) rfl rfl hl.1 rfl (lv_room (Nat.le_of_ble_eq_true rfl)) dL_pays_3 ⟨nle0 hm, nle0 hn⟩⟩) (fun H locs hW hS => ?_)
  refine lv_istore (lv' := [(4, .int q1), (0, .ref h1), (1, .ref h2), (2, .int a3), (3, .int a4)]) hx hb dL_pays_6 hl (by decide) rfl (fun ls hl => ?_)
  refine lv_iload_n hx hb dL_pays_8 rfl (lv_at hl 4 rfl) ?_
  refine lv_iconst (v := 3) hx hb dL_pays_9 (by decide) ?_
  refine lv_ishr hx hb dL_pays_10 ?_
  refine lv_iconst (v := 5) hx hb dL_pays_11 (by decide) ?_
  obtain ⟨q6, hcq6, hf⟩ := bd_of hf
  refine kdP_i (rest := []) (r := q6) (σ' := σ1) ⟨rfl, rfl, rfl, rfl, rfl, rfl, rfl⟩ hA hW hS (fun ad g0 hR => by subst g0; exact ⟨_, va_runS (As := [.int (a4 >>> (3 &&& 31)), .int 5]) ⟨hx, hb, hml, hown, hts⟩ (mL_some l D dA ad σ1 _ (a4 >>> (3 &&& 31)) 5 q6 hcq6) (va_cwS 2 hts gL_128 rfl rfl rfl (by decide +kernel) ⟨Nat.le_of_ble_eq_true rfl, Nat.le_of_ble_eq_true rfl⟩) (preS_of hR hK _) rfl rfl hl.1 rfl (lv_room (Nat.le_of_ble_eq_true rfl)) dL_pays_12 ⟨nle0 hm, nle0 hn⟩⟩) (fun H locs hW hS => ?_)
  refine lv_istore (lv' := [(5, .int q6), (4, .int q1), (0, .ref h1), (1, .ref h2), (2, .int a3), (3, .int a4)]) hx hb dL_pays_15 hl (by decide) rfl (fun ls hl => ?_)
  refine lv_aload_n hx hb dL_pays_17 rfl (lv_at hl 2 rfl) ?_
  refine lv_iload_n hx hb dL_pays_18 rfl (lv_at hl 4 rfl) ?_
  obtain ⟨q11, m12, n13, m14, n15, hcq11, hf, hem, hen⟩ := bt2_of hf
  refine kdA_l (X := [13, 15]) (rest := []) (r := q11.1) (σ' := q11.2) (by decide) hA hW hS (fun ad g0 hR hLX => by subst g0; exact ⟨_, va_runS (As := [.ref (ad 0 0), .int a3]) ⟨hx, hb, hml, hown, hts⟩ (mL_all l hst D dA ad σ1 _ x mi a3 q11.1 q11.2 m12 n13 hcq11) (va_cwS 2 hts gL_135 rfl rfl rfl (by decide +kernel) ⟨Nat.le_of_ble_eq_true rfl, Nat.le_of_ble_eq_true rfl⟩) (preSA_of hA hR hS hK hX hLX _) rfl rfl hl.1 rfl (lv_room (Nat.le_of_ble_eq_true rfl)) dL_pays_19 ⟨nle hm hem, nle hn hen⟩⟩) (fun H locs hW hS => ?_)
  have hm := nadd hm hem
  have hn := nadd hn hen
  refine lv_lstore (lv' := [(6, .long q11.1), (5, .int q6), (4, .int q1), (0, .ref h1), (1, .ref h2), (2, .int a3), (3, .int a4)]) hx hb dL_pays_22 hl (by decide) rfl (fun ls hl => ?_)
  refine lv_aload_n hx hb dL_pays_24 rfl (lv_at hl 3 rfl) ?_
  refine lv_iload hx hb dL_pays_25 (lv_at hl 1 rfl) ?_
  obtain ⟨q16, m17, n18, m19, n20, hcq16, hf, hem, hen⟩ := yb_of hf
  refine kdX_i (X := []) (rest := []) (q := q16) (by decide) hA hW hS (fun ad g0 hR hLX => by subst g0; exact ⟨_, vx_runV (As := [.int q6]) ⟨hx, hb, hml, hown, hts⟩ (mX5_hasFailed l hst D dA ad q11.2 _ x mi q6 (.inr q16) m17 n18 hcq16) (cwV 1 hts gL_70 rfl rfl rfl (by decide +kernel) ⟨Nat.le_of_ble_eq_true rfl, Nat.le_of_ble_eq_true rfl⟩) (preVA_of hA hR hS hK hX hLX _) rfl rfl hl.1 rfl (lv_room (Nat.le_of_ble_eq_true rfl)) dL_pays_27 ⟨nle hm hem, nle hn hen⟩⟩) (fun H locs hW hS => ?_)
  have hm := nadd hm hem
  have hn := nadd hn hen
  refine lv_istore (lv' := [(8, .int q16.1), (6, .long q11.1), (5, .int q6), (4, .int q1), (0, .ref h1), (1, .ref h2), (2, .int a3), (3, .int a4)]) hx hb dL_pays_30 hl (by decide) rfl (fun ls hl => ?_)
  refine lv_iload hx hb dL_pays_32 (lv_at hl 3 rfl) ?_
  refine lv_iconst (v := 3) hx hb dL_pays_34 (by decide) ?_
  refine lv_icmp_ge (tgt := 180) hx hb dL_pays_35 (by decide) (fun c21 => ?_) (fun c21 => ?_)
  · have hf := if_of_pos hf c21
    refine lv_iload hx hb dL_pays_180 (lv_at hl 3 rfl) ?_
    refine lv_iconst (v := 5) hx hb dL_pays_182 (by decide) ?_
    refine lv_icmp_ge (tgt := 363) hx hb dL_pays_183 (by decide) (fun c22 => ?_) (fun c22 => ?_)
    · have hf := if_of_pos hf c22
      refine lv_aload_n hx hb dL_pays_363 rfl (lv_at hl 4 rfl) ?_
      refine lv_iload hx hb dL_pays_364 (lv_at hl 2 rfl) ?_
      obtain ⟨q23, m24, n25, m26, n27, hcq23, hf, hem, hen⟩ := yb_of hf
      refine kdX_i (X := []) (rest := []) (q := q23) (by decide) hA hW hS (fun ad g0 hR hLX => by subst g0; exact ⟨_, vx_runV (As := [.int q6]) ⟨hx, hb, hml, hown, hts⟩ (mX5_share l hst D dA ad q16.2 _ x mi q6 (.inr q23) m24 n25 hcq23) (cwV 1 hts gL_98 rfl rfl rfl (by decide +kernel) ⟨Nat.le_of_ble_eq_true rfl, Nat.le_of_ble_eq_true rfl⟩) (preVA_of hA hR hS hK hX hLX _) rfl rfl hl.1 rfl (lv_room (Nat.le_of_ble_eq_true rfl)) dL_pays_366 ⟨nle hm hem, nle hn hen⟩⟩) (fun H locs hW hS => ?_)
      have hm := nadd hm hem
      have hn := nadd hn hen
      refine lv_istore (lv' := [(9, .int q23.1), (8, .int q16.1), (6, .long q11.1), (5, .int q6), (4, .int q1), (0, .ref h1), (1, .ref h2), (2, .int a3), (3, .int a4)]) hx hb dL_pays_369 hl (by decide) rfl (fun ls hl => ?_)
      refine lv_iconst (v := 1) hx hb dL_pays_371 (by decide) ?_
      refine lv_iload_n hx hb dL_pays_372 rfl (lv_at hl 8 rfl) ?_
      refine lv_bipush (v := 6) hx hb dL_pays_373 (by decide) ?_
      refine lv_ishr hx hb dL_pays_375 ?_
      refine lv_sipush (v := 300) hx hb dL_pays_376 (by decide) ?_
      obtain ⟨q28, hcq28, hf⟩ := bd_of hf
      refine kdP_i (rest := [.int 1]) (r := q28) (σ' := q23.2) ⟨rfl, rfl, rfl, rfl, rfl, rfl, rfl⟩ hA hW hS (fun ad g0 hR => by subst g0; exact ⟨_, va_runS (As := [.int (a4 >>> (6 &&& 31)), .int 300]) ⟨hx, hb, hml, hown, hts⟩ (mL_some l D dA ad q23.2 _ (a4 >>> (6 &&& 31)) 300 q28 hcq28) (va_cwS 2 hts gL_128 rfl rfl rfl (by decide +kernel) ⟨Nat.le_of_ble_eq_true rfl, Nat.le_of_ble_eq_true rfl⟩) (preS_of hR hK _) rfl rfl hl.1 rfl (lv_room (Nat.le_of_ble_eq_true rfl)) dL_pays_379 ⟨nle0 hm, nle0 hn⟩⟩) (fun H locs hW hS => ?_)
      refine lv_iadd hx hb dL_pays_382 ?_
      refine lv_topi (fun x33 hx33 => ?_)
      have hf := kst_eq hx33 hf
      refine lv_istore (lv' := [(10, .int x33), (9, .int q23.1), (8, .int q16.1), (6, .long q11.1), (5, .int q6), (4, .int q1), (0, .ref h1), (1, .ref h2), (2, .int a3), (3, .int a4)]) hx hb dL_pays_383 hl (by decide) rfl (fun ls hl => ?_)
      refine lv_aload_n hx hb dL_pays_385 rfl (lv_at hl 6 rfl) ?_
      refine lv_iload hx hb dL_pays_386 (lv_at hl 4 rfl) ?_
      obtain ⟨q34, m35, n36, m37, n38, hcq34, hf, hem, hen⟩ := yb_of hf
      refine kdX_i (X := []) (rest := []) (q := q34) (by decide) hA hW hS (fun ad g0 hR hLX => by subst g0; exact ⟨_, vx_runV (As := [.int q6]) ⟨hx, hb, hml, hown, hts⟩ (mX5_cash l hst D dA ad q23.2 _ x mi q6 (.inr q34) m35 n36 hcq34) (cwV 1 hts gL_77 rfl rfl rfl (by decide +kernel) ⟨Nat.le_of_ble_eq_true rfl, Nat.le_of_ble_eq_true rfl⟩) (preVA_of hA hR hS hK hX hLX _) rfl rfl hl.1 rfl (lv_room (Nat.le_of_ble_eq_true rfl)) dL_pays_388 ⟨nle hm hem, nle hn hen⟩⟩) (fun H locs hW hS => ?_)
      have hm := nadd hm hem
      have hn := nadd hn hen
      refine lv_istore (lv' := [(11, .int q34.1), (10, .int x33), (9, .int q23.1), (8, .int q16.1), (6, .long q11.1), (5, .int q6), (4, .int q1), (0, .ref h1), (1, .ref h2), (2, .int a3), (3, .int a4)]) hx hb dL_pays_391 hl (by decide) rfl (fun ls hl => ?_)
      refine lv_aload_n hx hb dL_pays_393 rfl (lv_at hl 7 rfl) ?_
      refine lv_aload_n hx hb dL_pays_394 rfl (lv_at hl 8 rfl) ?_
      refine lv_iconst (v := 5) hx hb dL_pays_395 (by decide) ?_
      refine lv_iload hx hb dL_pays_396 (lv_at hl 5 rfl) ?_
      refine lv_iload hx hb dL_pays_398 (lv_at hl 1 rfl) ?_
      refine lv_iconst (v := 0) hx hb dL_pays_400 (by decide) ?_
      obtain ⟨q39, m40, n41, m42, n43, hcq39, hf, hem, hen⟩ := bt2_of hf
      refine kdD_i (rest := []) hS (va_runS (As := [.ref h1, .ref h2, .int 5, .int q6, .int x33, .int 0]) ⟨hx, hb, hml, hown, hts⟩ (mL_both l hst D dA x mi h1 h2 q34.2 σ2 A0 _ 5 q6 x33 0 q39.1 q39.2.1 q39.2.2 m40 n41 hcq39) (va_cwS 6 hts gL_131 rfl rfl rfl (by decide +kernel) ⟨Nat.le_of_ble_eq_true rfl, Nat.le_of_ble_eq_true rfl⟩) (preD_of hA hW hS hK hX _) rfl rfl hl.1 rfl (lv_room (Nat.le_of_ble_eq_true rfl)) dL_pays_401 ⟨nle hm hem, nle hn hen⟩) (fun H locs hW hS => ?_)
      have hm := nadd hm hem
      have hn := nadd hn hen
      refine lv_istore (lv' := [(12, .int q39.1), (11, .int q34.1), (10, .int x33), (9, .int q23.1), (8, .int q16.1), (6, .long q11.1), (5, .int q6), (4, .int q1), (0, .ref h1), (1, .ref h2), (2, .int a3), (3, .int a4)]) hx hb dL_pays_404 hl (by decide) rfl (fun ls hl => ?_)
      refine lv_iload hx hb dL_pays_406 (lv_at hl 4 rfl) ?_
      refine lv_if_eq (tgt := 437) hx hb dL_pays_408 (by decide) (fun c44 => ?_) (fun c44 => ?_)
      · have hf := if_of_pos hf c44
        refine lv_iload hx hb dL_pays_437 (lv_at hl 0 rfl) ?_
        refine lv_iload hx hb dL_pays_439 (lv_at hl 3 rfl) ?_
        refine lv_iload hx hb dL_pays_441 (lv_at hl 2 rfl) ?_
        refine lv_iadd hx hb dL_pays_443 ?_
        refine lv_icmp_ne (tgt := 473) hx hb dL_pays_444 (by decide) (fun c45 => ?_) (fun c45 => ?_)
        · have hf := if_of_pos hf c45
          refine lv_iconst (v := 0) hx hb dL_pays_473 (by decide) ?_
          cases hf
          exact retd_z (by decide) hC hW hS (nfin hm) (nfin hn) dL_pays_474
        · have hf := if_of_neg hf (fun q => q c45)
          refine lv_aload_n hx hb dL_pays_447 rfl (lv_at hl 8 rfl) ?_
          refine lv_iload hx hb dL_pays_448 (lv_at hl 6 rfl) ?_
          obtain ⟨q46, m47, n48, m49, n50, hcq46, hf, hem, hen⟩ := yb_of hf
          refine kdX_i (X := []) (rest := []) (q := q46) (by decide) hA hW hS (fun ad g0 hR hLX => by subst g0; exact ⟨_, vx_runV (As := [.int q6]) ⟨hx, hb, hml, hown, hts⟩ (mX5_share l hst D dA ad q39.2.1 _ x mi q6 (.inr q46) m47 n48 hcq46) (cwV 1 hts gL_98 rfl rfl rfl (by decide +kernel) ⟨Nat.le_of_ble_eq_true rfl, Nat.le_of_ble_eq_true rfl⟩) (preVA_of hA hR hS hK hX hLX _) rfl rfl hl.1 rfl (lv_room (Nat.le_of_ble_eq_true rfl)) dL_pays_450 ⟨nle hm hem, nle hn hen⟩⟩) (fun H locs hW hS => ?_)
          have hm := nadd hm hem
          have hn := nadd hn hen
          refine lv_iload hx hb dL_pays_453 (lv_at hl 0 rfl) ?_
          refine lv_icmp_ne (tgt := 473) hx hb dL_pays_455 (by decide) (fun c51 => ?_) (fun c51 => ?_)
          · have hf := if_of_pos hf c51
            refine lv_iconst (v := 0) hx hb dL_pays_473 (by decide) ?_
            cases hf
            exact retd_z (by decide) hC hW hS (nfin hm) (nfin hn) dL_pays_474
          · have hf := if_of_neg hf (fun q => q c51)
            refine lv_aload_n hx hb dL_pays_458 rfl (lv_at hl 8 rfl) ?_
            refine lv_iload hx hb dL_pays_459 (lv_at hl 6 rfl) ?_
            obtain ⟨q52, m53, n54, m55, n56, hcq52, hf, hem, hen⟩ := yb_of hf
            refine kdX_i (X := []) (rest := []) (q := q52) (by decide) hA hW hS (fun ad g0 hR hLX => by subst g0; exact ⟨_, vx_runV (As := [.int q6]) ⟨hx, hb, hml, hown, hts⟩ (mX5_cash l hst D dA ad q46.2 _ x mi q6 (.inr q52) m53 n54 hcq52) (cwV 1 hts gL_77 rfl rfl rfl (by decide +kernel) ⟨Nat.le_of_ble_eq_true rfl, Nat.le_of_ble_eq_true rfl⟩) (preVA_of hA hR hS hK hX hLX _) rfl rfl hl.1 rfl (lv_room (Nat.le_of_ble_eq_true rfl)) dL_pays_461 ⟨nle hm hem, nle hn hen⟩⟩) (fun H locs hW hS => ?_)
            have hm := nadd hm hem
            have hn := nadd hn hen
            refine lv_iload hx hb dL_pays_464 (lv_at hl 1 rfl) ?_
            refine lv_icmp_ne (tgt := 473) hx hb dL_pays_466 (by decide) (fun c57 => ?_) (fun c57 => ?_)
            · have hf := if_of_pos hf c57
              refine lv_iconst (v := 0) hx hb dL_pays_473 (by decide) ?_
              cases hf
              exact retd_z (by decide) hC hW hS (nfin hm) (nfin hn) dL_pays_474
            · have hf := if_of_neg hf (fun q => q c57)
              refine lv_iconst (v := 1) hx hb dL_pays_469 (by decide) ?_
              refine lv_goto (tgt := 474) hx hb dL_pays_470 (by decide) ?_
              cases hf
              exact retd_z (by decide) hC hW hS (nfin hm) (nfin hn) dL_pays_474
      · have hf := if_of_neg hf c44
        refine lv_iload hx hb dL_pays_411 (lv_at hl 0 rfl) ?_
        refine lv_ldc (v := (-2000000003)) hx hb hown (hts _ q_637) dL_pays_413 ?_
        refine lv_icmp_ne (tgt := 433) hx hb dL_pays_415 (by decide) (fun c58 => ?_) (fun c58 => ?_)
        · have hf := if_of_pos hf c58
          refine lv_iconst (v := 0) hx hb dL_pays_433 (by decide) ?_
          refine lv_goto (tgt := 474) hx hb dL_pays_434 (by decide) ?_
          cases hf
          exact retd_z (by decide) hC hW hS (nfin hm) (nfin hn) dL_pays_474
        · have hf := if_of_neg hf (fun q => q c58)
          refine lv_aload_n hx hb dL_pays_418 rfl (lv_at hl 8 rfl) ?_
          refine lv_iload_n hx hb dL_pays_419 rfl (lv_at hl 10 rfl) ?_
          obtain ⟨q59, m60, n61, m62, n63, hcq59, hf, hem, hen⟩ := bt2_of hf
          refine kdA_l (X := [13, 15]) (rest := []) (r := q59.1) (σ' := q59.2) (by decide) hA hW hS (fun ad g0 hR hLX => by subst g0; exact ⟨_, va_runS (As := [.ref (ad 0 0), .int a3]) ⟨hx, hb, hml, hown, hts⟩ (mL_all l hst D dA ad q39.2.1 _ x mi a3 q59.1 q59.2 m60 n61 hcq59) (va_cwS 2 hts gL_135 rfl rfl rfl (by decide +kernel) ⟨Nat.le_of_ble_eq_true rfl, Nat.le_of_ble_eq_true rfl⟩) (preSA_of hA hR hS hK hX hLX _) rfl rfl hl.1 rfl (lv_room (Nat.le_of_ble_eq_true rfl)) dL_pays_420 ⟨nle hm hem, nle hn hen⟩⟩) (fun H locs hW hS => ?_)
          have hm := nadd hm hem
          have hn := nadd hn hen
          refine lv_lload hx hb dL_pays_423 (lv_at hl 5 rfl) ?_
          refine W.lcmp hx hb dL_pays_425 ?_
          refine lv_if_ne (tgt := 433) hx hb dL_pays_426 (by decide) (fun c640 => ?_) (fun c640 => ?_)
          · have c64 : ¬ q59.1 = q11.1 := fun q => c640 ((lg_cmp_eq _ _).mpr q)
            have hf := if_of_pos hf c64
            refine lv_iconst (v := 0) hx hb dL_pays_433 (by decide) ?_
            refine lv_goto (tgt := 474) hx hb dL_pays_434 (by decide) ?_
            cases hf
            exact retd_z (by decide) hC hW hS (nfin hm) (nfin hn) dL_pays_474
          · have c64 : ¬ ¬ q59.1 = q11.1 := fun q => q ((lg_cmp_eq _ _).mp c640)
            have hf := if_of_neg hf c64
            refine lv_iconst (v := 1) hx hb dL_pays_429 (by decide) ?_
            refine lv_goto (tgt := 474) hx hb dL_pays_430 (by decide) ?_
            cases hf
            exact retd_z (by decide) hC hW hS (nfin hm) (nfin hn) dL_pays_474
    · have hf := if_of_neg hf c22
      refine lv_iload_n hx hb dL_pays_186 rfl (lv_at hl 7 rfl) ?_
      refine lv_bipush (v := 6) hx hb dL_pays_187 (by decide) ?_
      refine lv_ishr hx hb dL_pays_189 ?_
      refine lv_iconst (v := 2) hx hb dL_pays_190 (by decide) ?_
      obtain ⟨q65, hcq65, hf⟩ := bd_of hf
      refine kdP_i (rest := []) (r := q65) (σ' := q16.2) ⟨rfl, rfl, rfl, rfl, rfl, rfl, rfl⟩ hA hW hS (fun ad g0 hR => by subst g0; exact ⟨_, va_runS (As := [.int (a4 >>> (6 &&& 31)), .int 2]) ⟨hx, hb, hml, hown, hts⟩ (mL_some l D dA ad q16.2 _ (a4 >>> (6 &&& 31)) 2 q65 hcq65) (va_cwS 2 hts gL_128 rfl rfl rfl (by decide +kernel) ⟨Nat.le_of_ble_eq_true rfl, Nat.le_of_ble_eq_true rfl⟩) (preS_of hR hK _) rfl rfl hl.1 rfl (lv_room (Nat.le_of_ble_eq_true rfl)) dL_pays_191 ⟨nle0 hm, nle0 hn⟩⟩) (fun H locs hW hS => ?_)
      refine lv_istore (lv' := [(9, .int q65), (8, .int q16.1), (6, .long q11.1), (5, .int q6), (4, .int q1), (0, .ref h1), (1, .ref h2), (2, .int a3), (3, .int a4)]) hx hb dL_pays_194 hl (by decide) rfl (fun ls hl => ?_)
      refine lv_iload_n hx hb dL_pays_196 rfl (lv_at hl 8 rfl) ?_
      refine lv_bipush (v := 7) hx hb dL_pays_197 (by decide) ?_
      refine lv_ishr hx hb dL_pays_199 ?_
      refine lv_bipush (v := 31) hx hb dL_pays_200 (by decide) ?_
      obtain ⟨q70, hcq70, hf⟩ := bd_of hf
      refine kdP_i (rest := []) (r := q70) (σ' := q16.2) ⟨rfl, rfl, rfl, rfl, rfl, rfl, rfl⟩ hA hW hS (fun ad g0 hR => by subst g0; exact ⟨_, va_runS (As := [.int (a4 >>> (7 &&& 31)), .int 31]) ⟨hx, hb, hml, hown, hts⟩ (mL_some l D dA ad q16.2 _ (a4 >>> (7 &&& 31)) 31 q70 hcq70) (va_cwS 2 hts gL_128 rfl rfl rfl (by decide +kernel) ⟨Nat.le_of_ble_eq_true rfl, Nat.le_of_ble_eq_true rfl⟩) (preS_of hR hK _) rfl rfl hl.1 rfl (lv_room (Nat.le_of_ble_eq_true rfl)) dL_pays_202 ⟨nle0 hm, nle0 hn⟩⟩) (fun H locs hW hS => ?_)
      refine lv_bipush (v := 12) hx hb dL_pays_205 (by decide) ?_
      refine lv_isub hx hb dL_pays_207 ?_
      refine lv_topi (fun x75 hx75 => ?_)
      have hf := kst_eq hx75 hf
      refine lv_istore (lv' := [(10, .int x75), (9, .int q65), (8, .int q16.1), (6, .long q11.1), (5, .int q6), (4, .int q1), (0, .ref h1), (1, .ref h2), (2, .int a3), (3, .int a4)]) hx hb dL_pays_208 hl (by decide) rfl (fun ls hl => ?_)
      refine lv_aload_n hx hb dL_pays_210 rfl (lv_at hl 6 rfl) ?_
      refine lv_iload hx hb dL_pays_211 (lv_at hl 4 rfl) ?_
      obtain ⟨q76, m77, n78, m79, n80, hcq76, hf, hem, hen⟩ := yb_of hf
      refine kdX_i (X := []) (rest := []) (q := q76) (by decide) hA hW hS (fun ad g0 hR hLX => by subst g0; exact ⟨_, vx_runV (As := [.int q6]) ⟨hx, hb, hml, hown, hts⟩ (mX5_free l hst D dA ad q16.2 _ x mi q6 (.inr q76) m77 n78 hcq76) (cwV 1 hts gL_95 rfl rfl rfl (by decide +kernel) ⟨Nat.le_of_ble_eq_true rfl, Nat.le_of_ble_eq_true rfl⟩) (preVA_of hA hR hS hK hX hLX _) rfl rfl hl.1 rfl (lv_room (Nat.le_of_ble_eq_true rfl)) dL_pays_213 ⟨nle hm hem, nle hn hen⟩⟩) (fun H locs hW hS => ?_)
      have hm := nadd hm hem
      have hn := nadd hn hen
      refine lv_istore (lv' := [(11, .int q76.1), (10, .int x75), (9, .int q65), (8, .int q16.1), (6, .long q11.1), (5, .int q6), (4, .int q1), (0, .ref h1), (1, .ref h2), (2, .int a3), (3, .int a4)]) hx hb dL_pays_216 hl (by decide) rfl (fun ls hl => ?_)
      refine lv_aload_n hx hb dL_pays_218 rfl (lv_at hl 7 rfl) ?_
      refine lv_iload hx hb dL_pays_219 (lv_at hl 5 rfl) ?_
      obtain ⟨q81, m82, n83, m84, n85, hcq81, hf, hem, hen⟩ := yb_of hf
      refine kdX_i (X := []) (rest := []) (q := q81) (by decide) hA hW hS (fun ad g0 hR hLX => by subst g0; exact ⟨_, vx_runV (As := [.int q6]) ⟨hx, hb, hml, hown, hts⟩ (mX5_collateral l hst D dA ad q76.2 _ x mi q6 (.inr q81) m82 n83 hcq81) (cwV 1 hts gL_92 rfl rfl rfl (by decide +kernel) ⟨Nat.le_of_ble_eq_true rfl, Nat.le_of_ble_eq_true rfl⟩) (preVA_of hA hR hS hK hX hLX _) rfl rfl hl.1 rfl (lv_room (Nat.le_of_ble_eq_true rfl)) dL_pays_221 ⟨nle hm hem, nle hn hen⟩⟩) (fun H locs hW hS => ?_)
      have hm := nadd hm hem
      have hn := nadd hn hen
      refine lv_istore (lv' := [(12, .int q81.1), (11, .int q76.1), (10, .int x75), (9, .int q65), (8, .int q16.1), (6, .long q11.1), (5, .int q6), (4, .int q1), (0, .ref h1), (1, .ref h2), (2, .int a3), (3, .int a4)]) hx hb dL_pays_224 hl (by decide) rfl (fun ls hl => ?_)
      refine lv_aload_n hx hb dL_pays_226 rfl (lv_at hl 8 rfl) ?_
      refine lv_aload_n hx hb dL_pays_227 rfl (lv_at hl 9 rfl) ?_
      refine lv_iconst (v := 4) hx hb dL_pays_228 (by decide) ?_
      refine lv_iload hx hb dL_pays_229 (lv_at hl 6 rfl) ?_
      refine lv_iload hx hb dL_pays_231 (lv_at hl 3 rfl) ?_
      refine lv_iload hx hb dL_pays_233 (lv_at hl 2 rfl) ?_
      obtain ⟨q86, m87, n88, m89, n90, hcq86, hf, hem, hen⟩ := bt2_of hf
      refine kdD_i (rest := []) hS (va_runS (As := [.ref h1, .ref h2, .int 4, .int q6, .int q65, .int x75]) ⟨hx, hb, hml, hown, hts⟩ (mL_both l hst D dA x mi h1 h2 q81.2 σ2 A0 _ 4 q6 q65 x75 q86.1 q86.2.1 q86.2.2 m87 n88 hcq86) (va_cwS 6 hts gL_131 rfl rfl rfl (by decide +kernel) ⟨Nat.le_of_ble_eq_true rfl, Nat.le_of_ble_eq_true rfl⟩) (preD_of hA hW hS hK hX _) rfl rfl hl.1 rfl (lv_room (Nat.le_of_ble_eq_true rfl)) dL_pays_235 ⟨nle hm hem, nle hn hen⟩) (fun H locs hW hS => ?_)
      have hm := nadd hm hem
      have hn := nadd hn hen
      refine lv_istore (lv' := [(13, .int q86.1), (12, .int q81.1), (11, .int q76.1), (10, .int x75), (9, .int q65), (8, .int q16.1), (6, .long q11.1), (5, .int q6), (4, .int q1), (0, .ref h1), (1, .ref h2), (2, .int a3), (3, .int a4)]) hx hb dL_pays_238 hl (by decide) rfl (fun ls hl => ?_)
      refine lv_iload hx hb dL_pays_240 (lv_at hl 0 rfl) ?_
      refine lv_ldc (v := (-2000000003)) hx hb hown (hts _ q_637) dL_pays_242 ?_
      refine lv_icmp_ne (tgt := 274) hx hb dL_pays_244 (by decide) (fun c91 => ?_) (fun c91 => ?_)
      · have hf := if_of_pos hf c91
        refine lv_iload hx hb dL_pays_274 (lv_at hl 5 rfl) ?_
        refine lv_if_ne (tgt := 361) hx hb dL_pays_276 (by decide) (fun c92 => ?_) (fun c92 => ?_)
        · have hf := if_of_pos hf c92
          refine lv_iconst (v := 0) hx hb dL_pays_361 (by decide) ?_
          cases hf
          exact retd_z (by decide) hC hW hS (nfin hm) (nfin hn) dL_pays_362
        · have hf := if_of_neg hf (fun q => q c92)
          refine lv_iload hx hb dL_pays_279 (lv_at hl 0 rfl) ?_
          refine lv_if_lt (tgt := 361) hx hb dL_pays_281 (by decide) (fun c93 => ?_) (fun c93 => ?_)
          · have hf := if_of_pos hf c93
            refine lv_iconst (v := 0) hx hb dL_pays_361 (by decide) ?_
            cases hf
            exact retd_z (by decide) hC hW hS (nfin hm) (nfin hn) dL_pays_362
          · have hf := if_of_neg hf c93
            refine lv_iload hx hb dL_pays_284 (lv_at hl 0 rfl) ?_
            refine lv_sipush (v := 1000) hx hb dL_pays_286 (by decide) ?_
            refine lv_icmp_gt (tgt := 361) hx hb dL_pays_289 (by decide) (fun c94 => ?_) (fun c94 => ?_)
            · have hf := if_of_pos hf c94
              refine lv_iconst (v := 0) hx hb dL_pays_361 (by decide) ?_
              cases hf
              exact retd_z (by decide) hC hW hS (nfin hm) (nfin hn) dL_pays_362
            · have hf := if_of_neg hf c94
              refine lv_aload_n hx hb dL_pays_292 rfl (lv_at hl 9 rfl) ?_
              refine lv_iload hx hb dL_pays_293 (lv_at hl 7 rfl) ?_
              obtain ⟨q95, m96, n97, m98, n99, hcq95, hf, hem, hen⟩ := yb_of hf
              refine kdX_i (X := []) (rest := []) (q := q95) (by decide) hA hW hS (fun ad g0 hR hLX => by subst g0; exact ⟨_, vx_runV (As := [.int q6]) ⟨hx, hb, hml, hown, hts⟩ (mX5_free l hst D dA ad q86.2.1 _ x mi q6 (.inr q95) m96 n97 hcq95) (cwV 1 hts gL_95 rfl rfl rfl (by decide +kernel) ⟨Nat.le_of_ble_eq_true rfl, Nat.le_of_ble_eq_true rfl⟩) (preVA_of hA hR hS hK hX hLX _) rfl rfl hl.1 rfl (lv_room (Nat.le_of_ble_eq_true rfl)) dL_pays_295 ⟨nle hm hem, nle hn hen⟩⟩) (fun H locs hW hS => ?_)
              have hm := nadd hm hem
              have hn := nadd hn hen
              refine lv_iload hx hb dL_pays_298 (lv_at hl 2 rfl) ?_
              refine lv_isub hx hb dL_pays_300 ?_
              refine lv_aload_n hx hb dL_pays_301 rfl (lv_at hl 9 rfl) ?_
              refine lv_iload hx hb dL_pays_302 (lv_at hl 7 rfl) ?_
              obtain ⟨q100, m101, n102, m103, n104, hcq100, hf, hem, hen⟩ := yb_of hf
              refine kdX_i (X := []) (rest := [.int (q95.1 - q76.1)]) (q := q100) (by decide) hA hW hS (fun ad g0 hR hLX => by subst g0; exact ⟨_, vx_runV (As := [.int q6]) ⟨hx, hb, hml, hown, hts⟩ (mX5_collateral l hst D dA ad q95.2 _ x mi q6 (.inr q100) m101 n102 hcq100) (cwV 1 hts gL_92 rfl rfl rfl (by decide +kernel) ⟨Nat.le_of_ble_eq_true rfl, Nat.le_of_ble_eq_true rfl⟩) (preVA_of hA hR hS hK hX hLX _) rfl rfl hl.1 rfl (lv_room (Nat.le_of_ble_eq_true rfl)) dL_pays_304 ⟨nle hm hem, nle hn hen⟩⟩) (fun H locs hW hS => ?_)
              have hm := nadd hm hem
              have hn := nadd hn hen
              refine lv_iload hx hb dL_pays_307 (lv_at hl 1 rfl) ?_
              refine lv_isub hx hb dL_pays_309 ?_
              refine lv_icmp_ne (tgt := 361) hx hb dL_pays_310 (by decide) (fun c105 => ?_) (fun c105 => ?_)
              · have hf := if_of_pos hf c105
                refine lv_iconst (v := 0) hx hb dL_pays_361 (by decide) ?_
                cases hf
                exact retd_z (by decide) hC hW hS (nfin hm) (nfin hn) dL_pays_362
              · have hf := if_of_neg hf (fun q => q c105)
                refine lv_iload hx hb dL_pays_313 (lv_at hl 3 rfl) ?_
                refine lv_if_ge (tgt := 327) hx hb dL_pays_315 (by decide) (fun c106 => ?_) (fun c106 => ?_)
                · have hf := if_of_pos hf c106
                  refine lv_iload hx hb dL_pays_327 (lv_at hl 3 rfl) ?_
                  refine lv_if_ge (tgt := 346) hx hb dL_pays_329 (by decide) (fun c107 => ?_) (fun c107 => ?_)
                  · have hf := if_of_pos hf c107
                    refine lv_aload_n hx hb dL_pays_346 rfl (lv_at hl 9 rfl) ?_
                    refine lv_iload hx hb dL_pays_347 (lv_at hl 7 rfl) ?_
                    obtain ⟨q108, m109, n110, m111, n112, hcq108, hf, hem, hen⟩ := yb_of hf
                    refine kdX_i (X := []) (rest := []) (q := q108) (by decide) hA hW hS (fun ad g0 hR hLX => by subst g0; exact ⟨_, vx_runV (As := [.int q6]) ⟨hx, hb, hml, hown, hts⟩ (mX5_collateral l hst D dA ad q100.2 _ x mi q6 (.inr q108) m109 n110 hcq108) (cwV 1 hts gL_92 rfl rfl rfl (by decide +kernel) ⟨Nat.le_of_ble_eq_true rfl, Nat.le_of_ble_eq_true rfl⟩) (preVA_of hA hR hS hK hX hLX _) rfl rfl hl.1 rfl (lv_room (Nat.le_of_ble_eq_true rfl)) dL_pays_349 ⟨nle hm hem, nle hn hen⟩⟩) (fun H locs hW hS => ?_)
                    have hm := nadd hm hem
                    have hn := nadd hn hen
                    refine lv_iload hx hb dL_pays_352 (lv_at hl 1 rfl) ?_
                    refine lv_icmp_lt (tgt := 361) hx hb dL_pays_354 (by decide) (fun c113 => ?_) (fun c113 => ?_)
                    · have hf := if_of_pos hf c113
                      refine lv_iconst (v := 0) hx hb dL_pays_361 (by decide) ?_
                      cases hf
                      exact retd_z (by decide) hC hW hS (nfin hm) (nfin hn) dL_pays_362
                    · have hf := if_of_neg hf c113
                      refine lv_iconst (v := 1) hx hb dL_pays_357 (by decide) ?_
                      refine lv_goto (tgt := 362) hx hb dL_pays_358 (by decide) ?_
                      cases hf
                      exact retd_z (by decide) hC hW hS (nfin hm) (nfin hn) dL_pays_362
                  · have hf := if_of_neg hf c107
                    refine lv_aload_n hx hb dL_pays_332 rfl (lv_at hl 9 rfl) ?_
                    refine lv_iload hx hb dL_pays_333 (lv_at hl 7 rfl) ?_
                    obtain ⟨q114, m115, n116, m117, n118, hcq114, hf, hem, hen⟩ := yb_of hf
                    refine kdX_i (X := []) (rest := []) (q := q114) (by decide) hA hW hS (fun ad g0 hR hLX => by subst g0; exact ⟨_, vx_runV (As := [.int q6]) ⟨hx, hb, hml, hown, hts⟩ (mX5_collateral l hst D dA ad q100.2 _ x mi q6 (.inr q114) m115 n116 hcq114) (cwV 1 hts gL_92 rfl rfl rfl (by decide +kernel) ⟨Nat.le_of_ble_eq_true rfl, Nat.le_of_ble_eq_true rfl⟩) (preVA_of hA hR hS hK hX hLX _) rfl rfl hl.1 rfl (lv_room (Nat.le_of_ble_eq_true rfl)) dL_pays_335 ⟨nle hm hem, nle hn hen⟩⟩) (fun H locs hW hS => ?_)
                    have hm := nadd hm hem
                    have hn := nadd hn hen
                    refine lv_iload hx hb dL_pays_338 (lv_at hl 1 rfl) ?_
                    refine lv_icmp_gt (tgt := 361) hx hb dL_pays_340 (by decide) (fun c119 => ?_) (fun c119 => ?_)
                    · have hf := if_of_pos hf c119
                      refine lv_iconst (v := 0) hx hb dL_pays_361 (by decide) ?_
                      cases hf
                      exact retd_z (by decide) hC hW hS (nfin hm) (nfin hn) dL_pays_362
                    · have hf := if_of_neg hf c119
                      refine lv_goto (tgt := 357) hx hb dL_pays_343 (by decide) ?_
                      refine lv_iconst (v := 1) hx hb dL_pays_357 (by decide) ?_
                      refine lv_goto (tgt := 362) hx hb dL_pays_358 (by decide) ?_
                      cases hf
                      exact retd_z (by decide) hC hW hS (nfin hm) (nfin hn) dL_pays_362
                · have hf := if_of_neg hf c106
                  refine lv_aload_n hx hb dL_pays_318 rfl (lv_at hl 9 rfl) ?_
                  refine lv_iload hx hb dL_pays_319 (lv_at hl 7 rfl) ?_
                  obtain ⟨q120, m121, n122, m123, n124, hcq120, hf, hem, hen⟩ := yb_of hf
                  refine kdX_i (X := []) (rest := []) (q := q120) (by decide) hA hW hS (fun ad g0 hR hLX => by subst g0; exact ⟨_, vx_runV (As := [.int q6]) ⟨hx, hb, hml, hown, hts⟩ (mX5_free l hst D dA ad q100.2 _ x mi q6 (.inr q120) m121 n122 hcq120) (cwV 1 hts gL_95 rfl rfl rfl (by decide +kernel) ⟨Nat.le_of_ble_eq_true rfl, Nat.le_of_ble_eq_true rfl⟩) (preVA_of hA hR hS hK hX hLX _) rfl rfl hl.1 rfl (lv_room (Nat.le_of_ble_eq_true rfl)) dL_pays_321 ⟨nle hm hem, nle hn hen⟩⟩) (fun H locs hW hS => ?_)
                  have hm := nadd hm hem
                  have hn := nadd hn hen
                  refine lv_if_lt (tgt := 361) hx hb dL_pays_324 (by decide) (fun c125 => ?_) (fun c125 => ?_)
                  · have hf := if_of_pos hf c125
                    refine lv_iconst (v := 0) hx hb dL_pays_361 (by decide) ?_
                    cases hf
                    exact retd_z (by decide) hC hW hS (nfin hm) (nfin hn) dL_pays_362
                  · have hf := if_of_neg hf c125
                    refine lv_iload hx hb dL_pays_327 (lv_at hl 3 rfl) ?_
                    refine lv_if_ge (tgt := 346) hx hb dL_pays_329 (by decide) (fun c126 => ?_) (fun c126 => ?_)
                    · have hf := if_of_pos hf c126
                      refine lv_aload_n hx hb dL_pays_346 rfl (lv_at hl 9 rfl) ?_
                      refine lv_iload hx hb dL_pays_347 (lv_at hl 7 rfl) ?_
                      obtain ⟨q127, m128, n129, m130, n131, hcq127, hf, hem, hen⟩ := yb_of hf
                      refine kdX_i (X := []) (rest := []) (q := q127) (by decide) hA hW hS (fun ad g0 hR hLX => by subst g0; exact ⟨_, vx_runV (As := [.int q6]) ⟨hx, hb, hml, hown, hts⟩ (mX5_collateral l hst D dA ad q120.2 _ x mi q6 (.inr q127) m128 n129 hcq127) (cwV 1 hts gL_92 rfl rfl rfl (by decide +kernel) ⟨Nat.le_of_ble_eq_true rfl, Nat.le_of_ble_eq_true rfl⟩) (preVA_of hA hR hS hK hX hLX _) rfl rfl hl.1 rfl (lv_room (Nat.le_of_ble_eq_true rfl)) dL_pays_349 ⟨nle hm hem, nle hn hen⟩⟩) (fun H locs hW hS => ?_)
                      have hm := nadd hm hem
                      have hn := nadd hn hen
                      refine lv_iload hx hb dL_pays_352 (lv_at hl 1 rfl) ?_
                      refine lv_icmp_lt (tgt := 361) hx hb dL_pays_354 (by decide) (fun c132 => ?_) (fun c132 => ?_)
                      · have hf := if_of_pos hf c132
                        refine lv_iconst (v := 0) hx hb dL_pays_361 (by decide) ?_
                        cases hf
                        exact retd_z (by decide) hC hW hS (nfin hm) (nfin hn) dL_pays_362
                      · have hf := if_of_neg hf c132
                        refine lv_iconst (v := 1) hx hb dL_pays_357 (by decide) ?_
                        refine lv_goto (tgt := 362) hx hb dL_pays_358 (by decide) ?_
                        cases hf
                        exact retd_z (by decide) hC hW hS (nfin hm) (nfin hn) dL_pays_362
                    · have hf := if_of_neg hf c126
                      refine lv_aload_n hx hb dL_pays_332 rfl (lv_at hl 9 rfl) ?_
                      refine lv_iload hx hb dL_pays_333 (lv_at hl 7 rfl) ?_
                      obtain ⟨q133, m134, n135, m136, n137, hcq133, hf, hem, hen⟩ := yb_of hf
                      refine kdX_i (X := []) (rest := []) (q := q133) (by decide) hA hW hS (fun ad g0 hR hLX => by subst g0; exact ⟨_, vx_runV (As := [.int q6]) ⟨hx, hb, hml, hown, hts⟩ (mX5_collateral l hst D dA ad q120.2 _ x mi q6 (.inr q133) m134 n135 hcq133) (cwV 1 hts gL_92 rfl rfl rfl (by decide +kernel) ⟨Nat.le_of_ble_eq_true rfl, Nat.le_of_ble_eq_true rfl⟩) (preVA_of hA hR hS hK hX hLX _) rfl rfl hl.1 rfl (lv_room (Nat.le_of_ble_eq_true rfl)) dL_pays_335 ⟨nle hm hem, nle hn hen⟩⟩) (fun H locs hW hS => ?_)
                      have hm := nadd hm hem
                      have hn := nadd hn hen
                      refine lv_iload hx hb dL_pays_338 (lv_at hl 1 rfl) ?_
                      refine lv_icmp_gt (tgt := 361) hx hb dL_pays_340 (by decide) (fun c138 => ?_) (fun c138 => ?_)
                      · have hf := if_of_pos hf c138
                        refine lv_iconst (v := 0) hx hb dL_pays_361 (by decide) ?_
                        cases hf
                        exact retd_z (by decide) hC hW hS (nfin hm) (nfin hn) dL_pays_362
                      · have hf := if_of_neg hf c138
                        refine lv_goto (tgt := 357) hx hb dL_pays_343 (by decide) ?_
                        refine lv_iconst (v := 1) hx hb dL_pays_357 (by decide) ?_
                        refine lv_goto (tgt := 362) hx hb dL_pays_358 (by decide) ?_
                        cases hf
                        exact retd_z (by decide) hC hW hS (nfin hm) (nfin hn) dL_pays_362
      · have hf := if_of_neg hf (fun q => q c91)
        refine lv_aload_n hx hb dL_pays_247 rfl (lv_at hl 9 rfl) ?_
        refine lv_iload_n hx hb dL_pays_248 rfl (lv_at hl 11 rfl) ?_
        obtain ⟨q139, m140, n141, m142, n143, hcq139, hf, hem, hen⟩ := bt2_of hf
        refine kdA_l (X := [13, 15]) (rest := []) (r := q139.1) (σ' := q139.2) (by decide) hA hW hS (fun ad g0 hR hLX => by subst g0; exact ⟨_, va_runS (As := [.ref (ad 0 0), .int a3]) ⟨hx, hb, hml, hown, hts⟩ (mL_all l hst D dA ad q86.2.1 _ x mi a3 q139.1 q139.2 m140 n141 hcq139) (va_cwS 2 hts gL_135 rfl rfl rfl (by decide +kernel) ⟨Nat.le_of_ble_eq_true rfl, Nat.le_of_ble_eq_true rfl⟩) (preSA_of hA hR hS hK hX hLX _) rfl rfl hl.1 rfl (lv_room (Nat.le_of_ble_eq_true rfl)) dL_pays_249 ⟨nle hm hem, nle hn hen⟩⟩) (fun H locs hW hS => ?_)
        have hm := nadd hm hem
        have hn := nadd hn hen
        refine lv_lload hx hb dL_pays_252 (lv_at hl 6 rfl) ?_
        refine W.lcmp hx hb dL_pays_254 ?_
        refine lv_if_ne (tgt := 272) hx hb dL_pays_255 (by decide) (fun c1440 => ?_) (fun c1440 => ?_)
        · have c144 : ¬ q139.1 = q11.1 := fun q => c1440 ((lg_cmp_eq _ _).mpr q)
          have hf := if_of_pos hf c144
          refine lv_iconst (v := 0) hx hb dL_pays_272 (by decide) ?_
          cases hf
          exact retd_z (by decide) hC hW hS (nfin hm) (nfin hn) dL_pays_273
        · have c144 : ¬ ¬ q139.1 = q11.1 := fun q => q ((lg_cmp_eq _ _).mp c1440)
          have hf := if_of_neg hf c144
          refine lv_iload hx hb dL_pays_258 (lv_at hl 5 rfl) ?_
          refine lv_if_ne (tgt := 268) hx hb dL_pays_260 (by decide) (fun c145 => ?_) (fun c145 => ?_)
          · have hf := if_of_pos hf c145
            refine lv_iconst (v := 1) hx hb dL_pays_268 (by decide) ?_
            refine lv_goto (tgt := 273) hx hb dL_pays_269 (by decide) ?_
            cases hf
            exact retd_z (by decide) hC hW hS (nfin hm) (nfin hn) dL_pays_273
          · have hf := if_of_neg hf (fun q => q c145)
            refine lv_iload hx hb dL_pays_263 (lv_at hl 3 rfl) ?_
            refine lv_if_eq (tgt := 272) hx hb dL_pays_265 (by decide) (fun c146 => ?_) (fun c146 => ?_)
            · have hf := if_of_pos hf c146
              refine lv_iconst (v := 0) hx hb dL_pays_272 (by decide) ?_
              cases hf
              exact retd_z (by decide) hC hW hS (nfin hm) (nfin hn) dL_pays_273
            · have hf := if_of_neg hf c146
              refine lv_iconst (v := 1) hx hb dL_pays_268 (by decide) ?_
              refine lv_goto (tgt := 273) hx hb dL_pays_269 (by decide) ?_
              cases hf
              exact retd_z (by decide) hC hW hS (nfin hm) (nfin hn) dL_pays_273
  · have hf := if_of_neg hf c21
    refine lv_iload_n hx hb dL_pays_38 rfl (lv_at hl 7 rfl) ?_
    refine lv_bipush (v := 6) hx hb dL_pays_39 (by decide) ?_
    refine lv_ishr hx hb dL_pays_41 ?_
    refine lv_sipush (v := 2001) hx hb dL_pays_42 (by decide) ?_
    obtain ⟨q147, hcq147, hf⟩ := bd_of hf
    refine kdP_i (rest := []) (r := q147) (σ' := q16.2) ⟨rfl, rfl, rfl, rfl, rfl, rfl, rfl⟩ hA hW hS (fun ad g0 hR => by subst g0; exact ⟨_, va_runS (As := [.int (a4 >>> (6 &&& 31)), .int 2001]) ⟨hx, hb, hml, hown, hts⟩ (mL_some l D dA ad q16.2 _ (a4 >>> (6 &&& 31)) 2001 q147 hcq147) (va_cwS 2 hts gL_128 rfl rfl rfl (by decide +kernel) ⟨Nat.le_of_ble_eq_true rfl, Nat.le_of_ble_eq_true rfl⟩) (preS_of hR hK _) rfl rfl hl.1 rfl (lv_room (Nat.le_of_ble_eq_true rfl)) dL_pays_45 ⟨nle0 hm, nle0 hn⟩⟩) (fun H locs hW hS => ?_)
    refine lv_sipush (v := 900) hx hb dL_pays_48 (by decide) ?_
    refine lv_isub hx hb dL_pays_51 ?_
    refine lv_topi (fun x152 hx152 => ?_)
    have hf := kst_eq hx152 hf
    refine lv_istore (lv' := [(9, .int x152), (8, .int q16.1), (6, .long q11.1), (5, .int q6), (4, .int q1), (0, .ref h1), (1, .ref h2), (2, .int a3), (3, .int a4)]) hx hb dL_pays_52 hl (by decide) rfl (fun ls hl => ?_)
    refine lv_aload_n hx hb dL_pays_54 rfl (lv_at hl 5 rfl) ?_
    refine lv_iload hx hb dL_pays_55 (lv_at hl 3 rfl) ?_
    obtain ⟨q153, m154, n155, m156, n157, hcq153, hf, hem, hen⟩ := yb_of hf
    refine kdX_i (X := []) (rest := []) (q := q153) (by decide) hA hW hS (fun ad g0 hR hLX => by subst g0; exact ⟨_, vx_runV (As := [.int q6]) ⟨hx, hb, hml, hown, hts⟩ (mX5_cash l hst D dA ad q16.2 _ x mi q6 (.inr q153) m154 n155 hcq153) (cwV 1 hts gL_77 rfl rfl rfl (by decide +kernel) ⟨Nat.le_of_ble_eq_true rfl, Nat.le_of_ble_eq_true rfl⟩) (preVA_of hA hR hS hK hX hLX _) rfl rfl hl.1 rfl (lv_room (Nat.le_of_ble_eq_true rfl)) dL_pays_57 ⟨nle hm hem, nle hn hen⟩⟩) (fun H locs hW hS => ?_)
    have hm := nadd hm hem
    have hn := nadd hn hen
    refine lv_istore (lv' := [(10, .int q153.1), (9, .int x152), (8, .int q16.1), (6, .long q11.1), (5, .int q6), (4, .int q1), (0, .ref h1), (1, .ref h2), (2, .int a3), (3, .int a4)]) hx hb dL_pays_60 hl (by decide) rfl (fun ls hl => ?_)
    refine lv_aload_n hx hb dL_pays_62 rfl (lv_at hl 6 rfl) ?_
    refine lv_iload hx hb dL_pays_63 (lv_at hl 4 rfl) ?_
    obtain ⟨q158, m159, n160, m161, n162, hcq158, hf, hem, hen⟩ := yb_of hf
    refine kdX_i (X := []) (rest := []) (q := q158) (by decide) hA hW hS (fun ad g0 hR hLX => by subst g0; exact ⟨_, vx_runV (As := [.int q6]) ⟨hx, hb, hml, hown, hts⟩ (mX5_free l hst D dA ad q153.2 _ x mi q6 (.inr q158) m159 n160 hcq158) (cwV 1 hts gL_95 rfl rfl rfl (by decide +kernel) ⟨Nat.le_of_ble_eq_true rfl, Nat.le_of_ble_eq_true rfl⟩) (preVA_of hA hR hS hK hX hLX _) rfl rfl hl.1 rfl (lv_room (Nat.le_of_ble_eq_true rfl)) dL_pays_65 ⟨nle hm hem, nle hn hen⟩⟩) (fun H locs hW hS => ?_)
    have hm := nadd hm hem
    have hn := nadd hn hen
    refine lv_istore (lv' := [(11, .int q158.1), (10, .int q153.1), (9, .int x152), (8, .int q16.1), (6, .long q11.1), (5, .int q6), (4, .int q1), (0, .ref h1), (1, .ref h2), (2, .int a3), (3, .int a4)]) hx hb dL_pays_68 hl (by decide) rfl (fun ls hl => ?_)
    refine lv_aload_n hx hb dL_pays_70 rfl (lv_at hl 7 rfl) ?_
    refine lv_aload_n hx hb dL_pays_71 rfl (lv_at hl 8 rfl) ?_
    refine lv_iconst (v := 3) hx hb dL_pays_72 (by decide) ?_
    refine lv_iload hx hb dL_pays_73 (lv_at hl 5 rfl) ?_
    refine lv_iload hx hb dL_pays_75 (lv_at hl 2 rfl) ?_
    refine lv_iconst (v := 0) hx hb dL_pays_77 (by decide) ?_
    obtain ⟨q163, m164, n165, m166, n167, hcq163, hf, hem, hen⟩ := bt2_of hf
    refine kdD_i (rest := []) hS (va_runS (As := [.ref h1, .ref h2, .int 3, .int q6, .int x152, .int 0]) ⟨hx, hb, hml, hown, hts⟩ (mL_both l hst D dA x mi h1 h2 q158.2 σ2 A0 _ 3 q6 x152 0 q163.1 q163.2.1 q163.2.2 m164 n165 hcq163) (va_cwS 6 hts gL_131 rfl rfl rfl (by decide +kernel) ⟨Nat.le_of_ble_eq_true rfl, Nat.le_of_ble_eq_true rfl⟩) (preD_of hA hW hS hK hX _) rfl rfl hl.1 rfl (lv_room (Nat.le_of_ble_eq_true rfl)) dL_pays_78 ⟨nle hm hem, nle hn hen⟩) (fun H locs hW hS => ?_)
    have hm := nadd hm hem
    have hn := nadd hn hen
    refine lv_istore (lv' := [(12, .int q163.1), (11, .int q158.1), (10, .int q153.1), (9, .int x152), (8, .int q16.1), (6, .long q11.1), (5, .int q6), (4, .int q1), (0, .ref h1), (1, .ref h2), (2, .int a3), (3, .int a4)]) hx hb dL_pays_81 hl (by decide) rfl (fun ls hl => ?_)
    refine lv_iload hx hb dL_pays_83 (lv_at hl 4 rfl) ?_
    refine lv_if_ne (tgt := 105) hx hb dL_pays_85 (by decide) (fun c168 => ?_) (fun c168 => ?_)
    · have hf := if_of_pos hf c168
      refine lv_iconst (v := 0) hx hb dL_pays_105 (by decide) ?_
      refine lv_istore (lv' := [(13, .int 0), (12, .int q163.1), (11, .int q158.1), (10, .int q153.1), (9, .int x152), (8, .int q16.1), (6, .long q11.1), (5, .int q6), (4, .int q1), (0, .ref h1), (1, .ref h2), (2, .int a3), (3, .int a4)]) hx hb dL_pays_106 hl (by decide) rfl (fun ls hl => ?_)
      refine lv_iload hx hb dL_pays_108 (lv_at hl 0 rfl) ?_
      refine lv_if_eq (tgt := 156) hx hb dL_pays_110 (by decide) (fun c169 => ?_) (fun c169 => absurd (by decide) c169)
      refine lv_iload hx hb dL_pays_156 (lv_at hl 1 rfl) ?_
      refine lv_ldc (v := (-2000000003)) hx hb hown (hts _ q_637) dL_pays_158 ?_
      refine lv_icmp_ne (tgt := 178) hx hb dL_pays_160 (by decide) (fun c170 => ?_) (fun c170 => ?_)
      · have hf := if_of_pos hf c170
        refine lv_iconst (v := 0) hx hb dL_pays_178 (by decide) ?_
        cases hf
        exact retd_z (by decide) hC hW hS (nfin hm) (nfin hn) dL_pays_179
      · have hf := if_of_neg hf (fun q => q c170)
        refine lv_aload_n hx hb dL_pays_163 rfl (lv_at hl 9 rfl) ?_
        refine lv_iload_n hx hb dL_pays_164 rfl (lv_at hl 11 rfl) ?_
        obtain ⟨q171, m172, n173, m174, n175, hcq171, hf, hem, hen⟩ := bt2_of hf
        refine kdA_l (X := [13, 15]) (rest := []) (r := q171.1) (σ' := q171.2) (by decide) hA hW hS (fun ad g0 hR hLX => by subst g0; exact ⟨_, va_runS (As := [.ref (ad 0 0), .int a3]) ⟨hx, hb, hml, hown, hts⟩ (mL_all l hst D dA ad q163.2.1 _ x mi a3 q171.1 q171.2 m172 n173 hcq171) (va_cwS 2 hts gL_135 rfl rfl rfl (by decide +kernel) ⟨Nat.le_of_ble_eq_true rfl, Nat.le_of_ble_eq_true rfl⟩) (preSA_of hA hR hS hK hX hLX _) rfl rfl hl.1 rfl (lv_room (Nat.le_of_ble_eq_true rfl)) dL_pays_165 ⟨nle hm hem, nle hn hen⟩⟩) (fun H locs hW hS => ?_)
        have hm := nadd hm hem
        have hn := nadd hn hen
        refine lv_lload hx hb dL_pays_168 (lv_at hl 6 rfl) ?_
        refine W.lcmp hx hb dL_pays_170 ?_
        refine lv_if_ne (tgt := 178) hx hb dL_pays_171 (by decide) (fun c1760 => ?_) (fun c1760 => ?_)
        · have c176 : ¬ q171.1 = q11.1 := fun q => c1760 ((lg_cmp_eq _ _).mpr q)
          have hf := if_of_pos hf c176
          refine lv_iconst (v := 0) hx hb dL_pays_178 (by decide) ?_
          cases hf
          exact retd_z (by decide) hC hW hS (nfin hm) (nfin hn) dL_pays_179
        · have c176 : ¬ ¬ q171.1 = q11.1 := fun q => q ((lg_cmp_eq _ _).mp c1760)
          have hf := if_of_neg hf c176
          refine lv_iconst (v := 1) hx hb dL_pays_174 (by decide) ?_
          refine lv_goto (tgt := 179) hx hb dL_pays_175 (by decide) ?_
          cases hf
          exact retd_z (by decide) hC hW hS (nfin hm) (nfin hn) dL_pays_179
    · have hf := if_of_neg hf (fun q => q c168)
      refine lv_iload hx hb dL_pays_88 (lv_at hl 3 rfl) ?_
      refine lv_if_ge (tgt := 101) hx hb dL_pays_90 (by decide) (fun c177 => ?_) (fun c177 => ?_)
      · have hf := if_of_pos hf c177
        refine lv_iconst (v := 1) hx hb dL_pays_101 (by decide) ?_
        refine lv_goto (tgt := 106) hx hb dL_pays_102 (by decide) ?_
        refine lv_istore (lv' := [(13, .int 1), (12, .int q163.1), (11, .int q158.1), (10, .int q153.1), (9, .int x152), (8, .int q16.1), (6, .long q11.1), (5, .int q6), (4, .int q1), (0, .ref h1), (1, .ref h2), (2, .int a3), (3, .int a4)]) hx hb dL_pays_106 hl (by decide) rfl (fun ls hl => ?_)
        refine lv_iload hx hb dL_pays_108 (lv_at hl 0 rfl) ?_
        refine lv_if_eq (tgt := 156) hx hb dL_pays_110 (by decide) (fun c178 => absurd c178 (by decide)) (fun c178 => ?_)
        refine lv_iload hx hb dL_pays_113 (lv_at hl 1 rfl) ?_
        refine lv_iload hx hb dL_pays_115 (lv_at hl 3 rfl) ?_
        refine lv_iload hx hb dL_pays_117 (lv_at hl 4 rfl) ?_
        refine lv_iadd hx hb dL_pays_119 ?_
        refine lv_icmp_ne (tgt := 152) hx hb dL_pays_120 (by decide) (fun c179 => ?_) (fun c179 => ?_)
        · have hf := if_of_pos hf c179
          refine lv_iconst (v := 0) hx hb dL_pays_152 (by decide) ?_
          refine lv_goto (tgt := 179) hx hb dL_pays_153 (by decide) ?_
          cases hf
          exact retd_z (by decide) hC hW hS (nfin hm) (nfin hn) dL_pays_179
        · have hf := if_of_neg hf (fun q => q c179)
          refine lv_aload_n hx hb dL_pays_123 rfl (lv_at hl 9 rfl) ?_
          refine lv_iload hx hb dL_pays_124 (lv_at hl 7 rfl) ?_
          obtain ⟨q180, m181, n182, m183, n184, hcq180, hf, hem, hen⟩ := yb_of hf
          refine kdX_i (X := []) (rest := []) (q := q180) (by decide) hA hW hS (fun ad g0 hR hLX => by subst g0; exact ⟨_, vx_runV (As := [.int q6]) ⟨hx, hb, hml, hown, hts⟩ (mX5_cash l hst D dA ad q163.2.1 _ x mi q6 (.inr q180) m181 n182 hcq180) (cwV 1 hts gL_77 rfl rfl rfl (by decide +kernel) ⟨Nat.le_of_ble_eq_true rfl, Nat.le_of_ble_eq_true rfl⟩) (preVA_of hA hR hS hK hX hLX _) rfl rfl hl.1 rfl (lv_room (Nat.le_of_ble_eq_true rfl)) dL_pays_126 ⟨nle hm hem, nle hn hen⟩⟩) (fun H locs hW hS => ?_)
          have hm := nadd hm hem
          have hn := nadd hn hen
          refine lv_iload hx hb dL_pays_129 (lv_at hl 1 rfl) ?_
          refine lv_icmp_ne (tgt := 152) hx hb dL_pays_131 (by decide) (fun c185 => ?_) (fun c185 => ?_)
          · have hf := if_of_pos hf c185
            refine lv_iconst (v := 0) hx hb dL_pays_152 (by decide) ?_
            refine lv_goto (tgt := 179) hx hb dL_pays_153 (by decide) ?_
            cases hf
            exact retd_z (by decide) hC hW hS (nfin hm) (nfin hn) dL_pays_179
          · have hf := if_of_neg hf (fun q => q c185)
            refine lv_aload_n hx hb dL_pays_134 rfl (lv_at hl 9 rfl) ?_
            refine lv_iload hx hb dL_pays_135 (lv_at hl 7 rfl) ?_
            obtain ⟨q186, m187, n188, m189, n190, hcq186, hf, hem, hen⟩ := yb_of hf
            refine kdX_i (X := []) (rest := []) (q := q186) (by decide) hA hW hS (fun ad g0 hR hLX => by subst g0; exact ⟨_, vx_runV (As := [.int q6]) ⟨hx, hb, hml, hown, hts⟩ (mX5_free l hst D dA ad q180.2 _ x mi q6 (.inr q186) m187 n188 hcq186) (cwV 1 hts gL_95 rfl rfl rfl (by decide +kernel) ⟨Nat.le_of_ble_eq_true rfl, Nat.le_of_ble_eq_true rfl⟩) (preVA_of hA hR hS hK hX hLX _) rfl rfl hl.1 rfl (lv_room (Nat.le_of_ble_eq_true rfl)) dL_pays_137 ⟨nle hm hem, nle hn hen⟩⟩) (fun H locs hW hS => ?_)
            have hm := nadd hm hem
            have hn := nadd hn hen
            refine lv_iload hx hb dL_pays_140 (lv_at hl 2 rfl) ?_
            refine lv_iload hx hb dL_pays_142 (lv_at hl 4 rfl) ?_
            refine lv_iadd hx hb dL_pays_144 ?_
            refine lv_icmp_ne (tgt := 152) hx hb dL_pays_145 (by decide) (fun c191 => ?_) (fun c191 => ?_)
            · have hf := if_of_pos hf c191
              refine lv_iconst (v := 0) hx hb dL_pays_152 (by decide) ?_
              refine lv_goto (tgt := 179) hx hb dL_pays_153 (by decide) ?_
              cases hf
              exact retd_z (by decide) hC hW hS (nfin hm) (nfin hn) dL_pays_179
            · have hf := if_of_neg hf (fun q => q c191)
              refine lv_iconst (v := 1) hx hb dL_pays_148 (by decide) ?_
              refine lv_goto (tgt := 179) hx hb dL_pays_149 (by decide) ?_
              cases hf
              exact retd_z (by decide) hC hW hS (nfin hm) (nfin hn) dL_pays_179
      · have hf := if_of_neg hf c177
        refine lv_iload hx hb dL_pays_93 (lv_at hl 1 rfl) ?_
        refine lv_iload hx hb dL_pays_95 (lv_at hl 3 rfl) ?_
        refine lv_iadd hx hb dL_pays_97 ?_
        refine lv_if_lt (tgt := 105) hx hb dL_pays_98 (by decide) (fun c192 => ?_) (fun c192 => ?_)
        · have hf := if_of_pos hf c192
          refine lv_iconst (v := 0) hx hb dL_pays_105 (by decide) ?_
          refine lv_istore (lv' := [(13, .int 0), (12, .int q163.1), (11, .int q158.1), (10, .int q153.1), (9, .int x152), (8, .int q16.1), (6, .long q11.1), (5, .int q6), (4, .int q1), (0, .ref h1), (1, .ref h2), (2, .int a3), (3, .int a4)]) hx hb dL_pays_106 hl (by decide) rfl (fun ls hl => ?_)
          refine lv_iload hx hb dL_pays_108 (lv_at hl 0 rfl) ?_
          refine lv_if_eq (tgt := 156) hx hb dL_pays_110 (by decide) (fun c193 => ?_) (fun c193 => absurd (by decide) c193)
          refine lv_iload hx hb dL_pays_156 (lv_at hl 1 rfl) ?_
          refine lv_ldc (v := (-2000000003)) hx hb hown (hts _ q_637) dL_pays_158 ?_
          refine lv_icmp_ne (tgt := 178) hx hb dL_pays_160 (by decide) (fun c194 => ?_) (fun c194 => ?_)
          · have hf := if_of_pos hf c194
            refine lv_iconst (v := 0) hx hb dL_pays_178 (by decide) ?_
            cases hf
            exact retd_z (by decide) hC hW hS (nfin hm) (nfin hn) dL_pays_179
          · have hf := if_of_neg hf (fun q => q c194)
            refine lv_aload_n hx hb dL_pays_163 rfl (lv_at hl 9 rfl) ?_
            refine lv_iload_n hx hb dL_pays_164 rfl (lv_at hl 11 rfl) ?_
            obtain ⟨q195, m196, n197, m198, n199, hcq195, hf, hem, hen⟩ := bt2_of hf
            refine kdA_l (X := [13, 15]) (rest := []) (r := q195.1) (σ' := q195.2) (by decide) hA hW hS (fun ad g0 hR hLX => by subst g0; exact ⟨_, va_runS (As := [.ref (ad 0 0), .int a3]) ⟨hx, hb, hml, hown, hts⟩ (mL_all l hst D dA ad q163.2.1 _ x mi a3 q195.1 q195.2 m196 n197 hcq195) (va_cwS 2 hts gL_135 rfl rfl rfl (by decide +kernel) ⟨Nat.le_of_ble_eq_true rfl, Nat.le_of_ble_eq_true rfl⟩) (preSA_of hA hR hS hK hX hLX _) rfl rfl hl.1 rfl (lv_room (Nat.le_of_ble_eq_true rfl)) dL_pays_165 ⟨nle hm hem, nle hn hen⟩⟩) (fun H locs hW hS => ?_)
            have hm := nadd hm hem
            have hn := nadd hn hen
            refine lv_lload hx hb dL_pays_168 (lv_at hl 6 rfl) ?_
            refine W.lcmp hx hb dL_pays_170 ?_
            refine lv_if_ne (tgt := 178) hx hb dL_pays_171 (by decide) (fun c2000 => ?_) (fun c2000 => ?_)
            · have c200 : ¬ q195.1 = q11.1 := fun q => c2000 ((lg_cmp_eq _ _).mpr q)
              have hf := if_of_pos hf c200
              refine lv_iconst (v := 0) hx hb dL_pays_178 (by decide) ?_
              cases hf
              exact retd_z (by decide) hC hW hS (nfin hm) (nfin hn) dL_pays_179
            · have c200 : ¬ ¬ q195.1 = q11.1 := fun q => q ((lg_cmp_eq _ _).mp c2000)
              have hf := if_of_neg hf c200
              refine lv_iconst (v := 1) hx hb dL_pays_174 (by decide) ?_
              refine lv_goto (tgt := 179) hx hb dL_pays_175 (by decide) ?_
              cases hf
              exact retd_z (by decide) hC hW hS (nfin hm) (nfin hn) dL_pays_179
        · have hf := if_of_neg hf c192
          refine lv_iconst (v := 1) hx hb dL_pays_101 (by decide) ?_
          refine lv_goto (tgt := 106) hx hb dL_pays_102 (by decide) ?_
          refine lv_istore (lv' := [(13, .int 1), (12, .int q163.1), (11, .int q158.1), (10, .int q153.1), (9, .int x152), (8, .int q16.1), (6, .long q11.1), (5, .int q6), (4, .int q1), (0, .ref h1), (1, .ref h2), (2, .int a3), (3, .int a4)]) hx hb dL_pays_106 hl (by decide) rfl (fun ls hl => ?_)
          refine lv_iload hx hb dL_pays_108 (lv_at hl 0 rfl) ?_
          refine lv_if_eq (tgt := 156) hx hb dL_pays_110 (by decide) (fun c201 => absurd c201 (by decide)) (fun c201 => ?_)
          refine lv_iload hx hb dL_pays_113 (lv_at hl 1 rfl) ?_
          refine lv_iload hx hb dL_pays_115 (lv_at hl 3 rfl) ?_
          refine lv_iload hx hb dL_pays_117 (lv_at hl 4 rfl) ?_
          refine lv_iadd hx hb dL_pays_119 ?_
          refine lv_icmp_ne (tgt := 152) hx hb dL_pays_120 (by decide) (fun c202 => ?_) (fun c202 => ?_)
          · have hf := if_of_pos hf c202
            refine lv_iconst (v := 0) hx hb dL_pays_152 (by decide) ?_
            refine lv_goto (tgt := 179) hx hb dL_pays_153 (by decide) ?_
            cases hf
            exact retd_z (by decide) hC hW hS (nfin hm) (nfin hn) dL_pays_179
          · have hf := if_of_neg hf (fun q => q c202)
            refine lv_aload_n hx hb dL_pays_123 rfl (lv_at hl 9 rfl) ?_
            refine lv_iload hx hb dL_pays_124 (lv_at hl 7 rfl) ?_
            obtain ⟨q203, m204, n205, m206, n207, hcq203, hf, hem, hen⟩ := yb_of hf
            refine kdX_i (X := []) (rest := []) (q := q203) (by decide) hA hW hS (fun ad g0 hR hLX => by subst g0; exact ⟨_, vx_runV (As := [.int q6]) ⟨hx, hb, hml, hown, hts⟩ (mX5_cash l hst D dA ad q163.2.1 _ x mi q6 (.inr q203) m204 n205 hcq203) (cwV 1 hts gL_77 rfl rfl rfl (by decide +kernel) ⟨Nat.le_of_ble_eq_true rfl, Nat.le_of_ble_eq_true rfl⟩) (preVA_of hA hR hS hK hX hLX _) rfl rfl hl.1 rfl (lv_room (Nat.le_of_ble_eq_true rfl)) dL_pays_126 ⟨nle hm hem, nle hn hen⟩⟩) (fun H locs hW hS => ?_)
            have hm := nadd hm hem
            have hn := nadd hn hen
            refine lv_iload hx hb dL_pays_129 (lv_at hl 1 rfl) ?_
            refine lv_icmp_ne (tgt := 152) hx hb dL_pays_131 (by decide) (fun c208 => ?_) (fun c208 => ?_)
            · have hf := if_of_pos hf c208
              refine lv_iconst (v := 0) hx hb dL_pays_152 (by decide) ?_
              refine lv_goto (tgt := 179) hx hb dL_pays_153 (by decide) ?_
              cases hf
              exact retd_z (by decide) hC hW hS (nfin hm) (nfin hn) dL_pays_179
            · have hf := if_of_neg hf (fun q => q c208)
              refine lv_aload_n hx hb dL_pays_134 rfl (lv_at hl 9 rfl) ?_
              refine lv_iload hx hb dL_pays_135 (lv_at hl 7 rfl) ?_
              obtain ⟨q209, m210, n211, m212, n213, hcq209, hf, hem, hen⟩ := yb_of hf
              refine kdX_i (X := []) (rest := []) (q := q209) (by decide) hA hW hS (fun ad g0 hR hLX => by subst g0; exact ⟨_, vx_runV (As := [.int q6]) ⟨hx, hb, hml, hown, hts⟩ (mX5_free l hst D dA ad q203.2 _ x mi q6 (.inr q209) m210 n211 hcq209) (cwV 1 hts gL_95 rfl rfl rfl (by decide +kernel) ⟨Nat.le_of_ble_eq_true rfl, Nat.le_of_ble_eq_true rfl⟩) (preVA_of hA hR hS hK hX hLX _) rfl rfl hl.1 rfl (lv_room (Nat.le_of_ble_eq_true rfl)) dL_pays_137 ⟨nle hm hem, nle hn hen⟩⟩) (fun H locs hW hS => ?_)
              have hm := nadd hm hem
              have hn := nadd hn hen
              refine lv_iload hx hb dL_pays_140 (lv_at hl 2 rfl) ?_
              refine lv_iload hx hb dL_pays_142 (lv_at hl 4 rfl) ?_
              refine lv_iadd hx hb dL_pays_144 ?_
              refine lv_icmp_ne (tgt := 152) hx hb dL_pays_145 (by decide) (fun c214 => ?_) (fun c214 => ?_)
              · have hf := if_of_pos hf c214
                refine lv_iconst (v := 0) hx hb dL_pays_152 (by decide) ?_
                refine lv_goto (tgt := 179) hx hb dL_pays_153 (by decide) ?_
                cases hf
                exact retd_z (by decide) hC hW hS (nfin hm) (nfin hn) dL_pays_179
              · have hf := if_of_neg hf (fun q => q c214)
                refine lv_iconst (v := 1) hx hb dL_pays_148 (by decide) ?_
                refine lv_goto (tgt := 179) hx hb dL_pays_149 (by decide) ?_
                cases hf
                exact retd_z (by decide) hC hW hS (nfin hm) (nfin hn) dL_pays_179
def fL_places_J327 (σ1 σ2 : St) (v5 : Int32) (v16 : Int32) (v17 : Int32) (t0 : Int32) : Option ((Int32 × St × St) × Nat × Nat) := bt2 (fL_call σ1 10 v5 1 0) (fun q89 => bt2 (fL_call q89.2 10 v5 0 0) (fun q94 => if t0 = 0 then some ((0, q94.2, σ2), 0, 0) else if v17 = 0 then some ((1, q94.2, σ2), 0, 0) else if q89.1 = v16 then some ((1, q94.2, σ2), 0, 0) else if q94.1 = v16 then some ((1, q94.2, σ2), 0, 0) else if 0 ≤ q89.1 then some ((1, q94.2, σ2), 0, 0) else if q94.1 < 0 then some ((0, q94.2, σ2), 0, 0) else some ((1, q94.2, σ2), 0, 0)))
set_option maxHeartbeats 4000000 in
set_option maxRecDepth 100000 in
theorem wL_places_J327 {p : Program} {l : Launch} {e : Env} {s : State} {m : MethodId} {args : Array Value} {below : List Frame} {meth : Method} {c : Code} {D : va_G} {dA : Nat → ClassId} {A0 : Nat → Prop} {x mi mc ms h1 h2 : Nat} {r : Int32} {σ1' σ2' : St} (hC : CTX p s m args meth c cL_places 22 RL (some .boolean)) (hK : KS D dA s) (hA : ∀ q, s.heap.size ≤ q → A0 q) (hX : EXT x mi A0 s s.heap) (hst : l.stackTraces = false) : ∀ (H : Heap) (locs : List Loc) (ls : Array Slot) (c0 s0 mr sr : Nat) (σ1 σ2 : St) (v5 : Int32) (v16 : Int32) (v17 : Int32) (t0 : Int32), mc = c0 + mr → ms = s0 + sr → W2 D dA x h1 h2 σ1 σ2 A0 H → va_S A0 s.heap H locs → lv_has ls 22 [(0, .ref h1), (1, .ref h2), (5, .int v5), (16, .int v16), (17, .int v17)] → fL_places_J327 σ1 σ2 v5 v16 v17 t0 = some ((r, σ1', σ2'), mr, sr) → W p l e ({ frames := 14, cells := mc, slots := ms, locals := 351 } : Room) s m args below meth c H locs c0 s0 (MQ below (va_Qi (fun (z : Int32) (_ : Unit) => z = r) (fun _ t => W2 D dA x h1 h2 σ1' σ2' A0 t.heap) A0) args s mc ms A0) (F0 m 327 ls [.int t0]) := by
  obtain ⟨hx, hb, hml, hown, hts, hr, hlk⟩ := id hC
  intro H locs ls c0 s0 mr sr σ1 σ2 v5 v16 v17 t0 hm hn hW hS hl hf
  unfold fL_places_J327 at hf
  refine lv_istore (lv' := [(19, .int t0), (0, .ref h1), (1, .ref h2), (5, .int v5), (16, .int v16), (17, .int v17)]) hx hb dL_places_327 hl (by decide) rfl (fun ls hl => ?_)
  refine lv_aload_n hx hb dL_places_329 rfl (lv_at hl 1 rfl) ?_
  refine lv_bipush (v := 10) hx hb dL_places_330 (by decide) ?_
  refine lv_iload hx hb dL_places_332 (lv_at hl 3 rfl) ?_
  refine lv_iconst (v := 1) hx hb dL_places_334 (by decide) ?_
  refine lv_iconst (v := 0) hx hb dL_places_335 (by decide) ?_
  obtain ⟨q89, m90, n91, m92, n93, hcq89, hf, hem, hen⟩ := bt2_of hf
  refine kdA_i (X := [13, 15]) (rest := []) (r := q89.1) (σ' := q89.2) (by decide) hA hW hS (fun ad g0 hR hLX => by subst g0; exact ⟨_, vx_runSW (As := [.ref (ad 0 0), .int 10, .int v5, .int 1, .int 0]) ⟨hx, hb, hml, hown, hts⟩ (mL_call l hst D dA ad σ1 _ x mi 10 v5 1 0 q89.1 q89.2 m90 n91 hcq89) (vx_cwSW 5 hts gL_120 rfl rfl rfl (by decide +kernel) ⟨Nat.le_of_ble_eq_true rfl, Nat.le_of_ble_eq_true rfl⟩) (preSA_of hA hR hS hK hX hLX _) rfl rfl hl.1 rfl (lv_room (Nat.le_of_ble_eq_true rfl)) dL_places_336 ⟨nle hm hem, nle hn hen⟩⟩) (fun H locs hW hS => ?_)
  have hm := nadd hm hem
  have hn := nadd hn hen
  refine lv_istore (lv' := [(20, .int q89.1), (19, .int t0), (0, .ref h1), (1, .ref h2), (5, .int v5), (16, .int v16), (17, .int v17)]) hx hb dL_places_339 hl (by decide) rfl (fun ls hl => ?_)
  refine lv_aload_n hx hb dL_places_341 rfl (lv_at hl 2 rfl) ?_
  refine lv_bipush (v := 10) hx hb dL_places_342 (by decide) ?_
  refine lv_iload hx hb dL_places_344 (lv_at hl 4 rfl) ?_
  refine lv_iconst (v := 0) hx hb dL_places_346 (by decide) ?_
  refine lv_iconst (v := 0) hx hb dL_places_347 (by decide) ?_
  obtain ⟨q94, m95, n96, m97, n98, hcq94, hf, hem, hen⟩ := bt2_of hf
  refine kdA_i (X := [13, 15]) (rest := []) (r := q94.1) (σ' := q94.2) (by decide) hA hW hS (fun ad g0 hR hLX => by subst g0; exact ⟨_, vx_runSW (As := [.ref (ad 0 0), .int 10, .int v5, .int 0, .int 0]) ⟨hx, hb, hml, hown, hts⟩ (mL_call l hst D dA ad q89.2 _ x mi 10 v5 0 0 q94.1 q94.2 m95 n96 hcq94) (vx_cwSW 5 hts gL_120 rfl rfl rfl (by decide +kernel) ⟨Nat.le_of_ble_eq_true rfl, Nat.le_of_ble_eq_true rfl⟩) (preSA_of hA hR hS hK hX hLX _) rfl rfl hl.1 rfl (lv_room (Nat.le_of_ble_eq_true rfl)) dL_places_348 ⟨nle hm hem, nle hn hen⟩⟩) (fun H locs hW hS => ?_)
  have hm := nadd hm hem
  have hn := nadd hn hen
  refine lv_istore (lv' := [(21, .int q94.1), (20, .int q89.1), (19, .int t0), (0, .ref h1), (1, .ref h2), (5, .int v5), (16, .int v16), (17, .int v17)]) hx hb dL_places_351 hl (by decide) rfl (fun ls hl => ?_)
  refine lv_iload hx hb dL_places_353 (lv_at hl 2 rfl) ?_
  refine lv_if_eq (tgt := 391) hx hb dL_places_355 (by decide) (fun c99 => ?_) (fun c99 => ?_)
  · have hf := if_of_pos hf c99
    refine lv_iconst (v := 0) hx hb dL_places_391 (by decide) ?_
    cases hf
    exact retd_z (by decide) hC hW hS (nfin hm) (nfin hn) dL_places_392
  · have hf := if_of_neg hf c99
    refine lv_iload hx hb dL_places_358 (lv_at hl 7 rfl) ?_
    refine lv_if_eq (tgt := 387) hx hb dL_places_360 (by decide) (fun c100 => ?_) (fun c100 => ?_)
    · have hf := if_of_pos hf c100
      refine lv_iconst (v := 1) hx hb dL_places_387 (by decide) ?_
      refine lv_goto (tgt := 392) hx hb dL_places_388 (by decide) ?_
      cases hf
      exact retd_z (by decide) hC hW hS (nfin hm) (nfin hn) dL_places_392
    · have hf := if_of_neg hf c100
      refine lv_iload hx hb dL_places_363 (lv_at hl 1 rfl) ?_
      refine lv_iload hx hb dL_places_365 (lv_at hl 6 rfl) ?_
      refine lv_icmp_eq (tgt := 387) hx hb dL_places_367 (by decide) (fun c101 => ?_) (fun c101 => ?_)
      · have hf := if_of_pos hf c101
        refine lv_iconst (v := 1) hx hb dL_places_387 (by decide) ?_
        refine lv_goto (tgt := 392) hx hb dL_places_388 (by decide) ?_
        cases hf
        exact retd_z (by decide) hC hW hS (nfin hm) (nfin hn) dL_places_392
      · have hf := if_of_neg hf c101
        refine lv_iload hx hb dL_places_370 (lv_at hl 0 rfl) ?_
        refine lv_iload hx hb dL_places_372 (lv_at hl 6 rfl) ?_
        refine lv_icmp_eq (tgt := 387) hx hb dL_places_374 (by decide) (fun c102 => ?_) (fun c102 => ?_)
        · have hf := if_of_pos hf c102
          refine lv_iconst (v := 1) hx hb dL_places_387 (by decide) ?_
          refine lv_goto (tgt := 392) hx hb dL_places_388 (by decide) ?_
          cases hf
          exact retd_z (by decide) hC hW hS (nfin hm) (nfin hn) dL_places_392
        · have hf := if_of_neg hf c102
          refine lv_iload hx hb dL_places_377 (lv_at hl 1 rfl) ?_
          refine lv_if_ge (tgt := 387) hx hb dL_places_379 (by decide) (fun c103 => ?_) (fun c103 => ?_)
          · have hf := if_of_pos hf c103
            refine lv_iconst (v := 1) hx hb dL_places_387 (by decide) ?_
            refine lv_goto (tgt := 392) hx hb dL_places_388 (by decide) ?_
            cases hf
            exact retd_z (by decide) hC hW hS (nfin hm) (nfin hn) dL_places_392
          · have hf := if_of_neg hf c103
            refine lv_iload hx hb dL_places_382 (lv_at hl 0 rfl) ?_
            refine lv_if_lt (tgt := 391) hx hb dL_places_384 (by decide) (fun c104 => ?_) (fun c104 => ?_)
            · have hf := if_of_pos hf c104
              refine lv_iconst (v := 0) hx hb dL_places_391 (by decide) ?_
              cases hf
              exact retd_z (by decide) hC hW hS (nfin hm) (nfin hn) dL_places_392
            · have hf := if_of_neg hf c104
              refine lv_iconst (v := 1) hx hb dL_places_387 (by decide) ?_
              refine lv_goto (tgt := 392) hx hb dL_places_388 (by decide) ?_
              cases hf
              exact retd_z (by decide) hC hW hS (nfin hm) (nfin hn) dL_places_392
def fL_places_J257 (σ1 σ2 : St) (v2 : Int32) (v5 : Int32) (v8 : Int32) (v9 : Int64) (v12 : Int32) (v15 : Int32) (v16 : Int32) (v17 : Int32) (t0 : Int32) : Option ((Int32 × St × St) × Nat × Nat) := if ¬ v15 = 0 then fL_places_J327 σ1 σ2 v5 v16 v17 0 else if ¬ v16 = v2 then fL_places_J327 σ1 σ2 v5 v16 v17 0 else bt2 (fL_equities σ1) (fun q106 => if ¬ q106.1 = v9 then fL_places_J327 q106.2 σ2 v5 v16 v17 0 else if t0 < 0 then fL_places_J327 q106.2 σ2 v5 v16 v17 0 else if ¬ (t0 + v17) = v8 then fL_places_J327 q106.2 σ2 v5 v16 v17 0 else if t0 ≤ 0 then bd (fX5_trades q106.2) (fun q115 => if q115 ≤ v12 then fL_places_J327 q106.2 σ2 v5 v16 v17 1 else fL_places_J327 q106.2 σ2 v5 v16 v17 0) else bd (fX5_trades q106.2) (fun q123 => if q123 ≤ v12 then fL_places_J327 q106.2 σ2 v5 v16 v17 0 else fL_places_J327 q106.2 σ2 v5 v16 v17 1))
set_option maxHeartbeats 4000000 in
set_option maxRecDepth 100000 in
theorem wL_places_J257 {p : Program} {l : Launch} {e : Env} {s : State} {m : MethodId} {args : Array Value} {below : List Frame} {meth : Method} {c : Code} {D : va_G} {dA : Nat → ClassId} {A0 : Nat → Prop} {x mi mc ms h1 h2 : Nat} {r : Int32} {σ1' σ2' : St} (hC : CTX p s m args meth c cL_places 22 RL (some .boolean)) (hK : KS D dA s) (hA : ∀ q, s.heap.size ≤ q → A0 q) (hX : EXT x mi A0 s s.heap) (hst : l.stackTraces = false) : ∀ (H : Heap) (locs : List Loc) (ls : Array Slot) (c0 s0 mr sr : Nat) (σ1 σ2 : St) (v2 : Int32) (v5 : Int32) (v8 : Int32) (v9 : Int64) (v12 : Int32) (v15 : Int32) (v16 : Int32) (v17 : Int32) (t0 : Int32), mc = c0 + mr → ms = s0 + sr → W2 D dA x h1 h2 σ1 σ2 A0 H → va_S A0 s.heap H locs → lv_has ls 22 [(0, .ref h1), (1, .ref h2), (2, .int v2), (5, .int v5), (8, .int v8), (9, .long v9), (12, .int v12), (15, .int v15), (16, .int v16), (17, .int v17)] → fL_places_J257 σ1 σ2 v2 v5 v8 v9 v12 v15 v16 v17 t0 = some ((r, σ1', σ2'), mr, sr) → W p l e ({ frames := 14, cells := mc, slots := ms, locals := 351 } : Room) s m args below meth c H locs c0 s0 (MQ below (va_Qi (fun (z : Int32) (_ : Unit) => z = r) (fun _ t => W2 D dA x h1 h2 σ1' σ2' A0 t.heap) A0) args s mc ms A0) (F0 m 257 ls [.int t0]) := by
  obtain ⟨hx, hb, hml, hown, hts, hr, hlk⟩ := id hC
  intro H locs ls c0 s0 mr sr σ1 σ2 v2 v5 v8 v9 v12 v15 v16 v17 t0 hm hn hW hS hl hf
  unfold fL_places_J257 at hf
  refine lv_istore (lv' := [(18, .int t0), (0, .ref h1), (1, .ref h2), (2, .int v2), (5, .int v5), (8, .int v8), (9, .long v9), (12, .int v12), (15, .int v15), (16, .int v16), (17, .int v17)]) hx hb dL_places_257 hl (by decide) rfl (fun ls hl => ?_)
  refine lv_iload hx hb dL_places_259 (lv_at hl 8 rfl) ?_
  refine lv_if_ne (tgt := 326) hx hb dL_places_261 (by decide) (fun c88 => ?_) (fun c88 => ?_)
  · have hf := if_of_pos hf c88
    refine lv_iconst (v := 0) hx hb dL_places_326 (by decide) ?_
    exact wL_places_J327 hC hK hA hX hst _ _ _ _ _ _ _ σ1 σ2 v5 v16 v17 0 hm hn hW hS (lv_sub hl [1, 2, 4, 9, 10] rfl) hf
  · have hf := if_of_neg hf (fun q => q c88)
    refine lv_iload hx hb dL_places_264 (lv_at hl 9 rfl) ?_
    refine lv_iload_n hx hb dL_places_266 rfl (lv_at hl 3 rfl) ?_
    refine lv_icmp_ne (tgt := 326) hx hb dL_places_267 (by decide) (fun c105 => ?_) (fun c105 => ?_)
    · have hf := if_of_pos hf c105
      refine lv_iconst (v := 0) hx hb dL_places_326 (by decide) ?_
      exact wL_places_J327 hC hK hA hX hst _ _ _ _ _ _ _ σ1 σ2 v5 v16 v17 0 hm hn hW hS (lv_sub hl [1, 2, 4, 9, 10] rfl) hf
    · have hf := if_of_neg hf (fun q => q c105)
      refine lv_aload_n hx hb dL_places_270 rfl (lv_at hl 1 rfl) ?_
      obtain ⟨q106, m107, n108, m109, n110, hcq106, hf, hem, hen⟩ := bt2_of hf
      refine kdA_l (X := [13, 15]) (rest := []) (r := q106.1) (σ' := q106.2) (by decide) hA hW hS (fun ad g0 hR hLX => by subst g0; exact ⟨_, va_runS (As := [.ref (ad 0 0)]) ⟨hx, hb, hml, hown, hts⟩ (mL_equities l hst D dA ad σ1 _ x mi q106.1 q106.2 m107 n108 hcq106) (va_cwS 1 hts gL_139 rfl rfl rfl (by decide +kernel) ⟨Nat.le_of_ble_eq_true rfl, Nat.le_of_ble_eq_true rfl⟩) (preSA_of hA hR hS hK hX hLX _) rfl rfl hl.1 rfl (lv_room (Nat.le_of_ble_eq_true rfl)) dL_places_271 ⟨nle hm hem, nle hn hen⟩⟩) (fun H locs hW hS => ?_)
      have hm := nadd hm hem
      have hn := nadd hn hen
      refine lv_lload hx hb dL_places_274 (lv_at hl 6 rfl) ?_
      refine W.lcmp hx hb dL_places_276 ?_
      refine lv_if_ne (tgt := 326) hx hb dL_places_277 (by decide) (fun c1110 => ?_) (fun c1110 => ?_)
      · have c111 : ¬ q106.1 = v9 := fun q => c1110 ((lg_cmp_eq _ _).mpr q)
        have hf := if_of_pos hf c111
        refine lv_iconst (v := 0) hx hb dL_places_326 (by decide) ?_
        exact wL_places_J327 hC hK hA hX hst _ _ _ _ _ _ _ q106.2 σ2 v5 v16 v17 0 hm hn hW hS (lv_sub hl [1, 2, 4, 9, 10] rfl) hf
      · have c111 : ¬ ¬ q106.1 = v9 := fun q => q ((lg_cmp_eq _ _).mp c1110)
        have hf := if_of_neg hf c111
        refine lv_iload hx hb dL_places_280 (lv_at hl 0 rfl) ?_
        refine lv_if_lt (tgt := 326) hx hb dL_places_282 (by decide) (fun c112 => ?_) (fun c112 => ?_)
        · have hf := if_of_pos hf c112
          refine lv_iconst (v := 0) hx hb dL_places_326 (by decide) ?_
          exact wL_places_J327 hC hK hA hX hst _ _ _ _ _ _ _ q106.2 σ2 v5 v16 v17 0 hm hn hW hS (lv_sub hl [1, 2, 4, 9, 10] rfl) hf
        · have hf := if_of_neg hf c112
          refine lv_iload hx hb dL_places_285 (lv_at hl 0 rfl) ?_
          refine lv_iload hx hb dL_places_287 (lv_at hl 10 rfl) ?_
          refine lv_iadd hx hb dL_places_289 ?_
          refine lv_iload hx hb dL_places_290 (lv_at hl 5 rfl) ?_
          refine lv_icmp_ne (tgt := 326) hx hb dL_places_292 (by decide) (fun c113 => ?_) (fun c113 => ?_)
          · have hf := if_of_pos hf c113
            refine lv_iconst (v := 0) hx hb dL_places_326 (by decide) ?_
            exact wL_places_J327 hC hK hA hX hst _ _ _ _ _ _ _ q106.2 σ2 v5 v16 v17 0 hm hn hW hS (lv_sub hl [1, 2, 4, 9, 10] rfl) hf
          · have hf := if_of_neg hf (fun q => q c113)
            refine lv_iload hx hb dL_places_295 (lv_at hl 0 rfl) ?_
            refine lv_if_le (tgt := 304) hx hb dL_places_297 (by decide) (fun c114 => ?_) (fun c114 => ?_)
            · have hf := if_of_pos hf c114
              refine lv_iconst (v := 0) hx hb dL_places_304 (by decide) ?_
              refine lv_aload_n hx hb dL_places_305 rfl (lv_at hl 1 rfl) ?_
              obtain ⟨q115, hcq115, hf⟩ := bd_of hf
              refine kdP_i (rest := [.int 0]) (r := q115) (σ' := q106.2) ⟨rfl, rfl, rfl, rfl, rfl, rfl, rfl⟩ hA hW hS (fun ad g0 hR => by subst g0; exact ⟨_, va_runV (As := []) ⟨hx, hb, hml, hown, hts⟩ (mX5_trades l D dA ad q106.2 _ q115 hcq115) (cwV 0 hts gL_101 rfl rfl rfl (by decide +kernel) ⟨Nat.le_of_ble_eq_true rfl, Nat.le_of_ble_eq_true rfl⟩) (preV_of hR hK (f := 0) (i := 0) rfl rfl rfl _) rfl rfl hl.1 rfl (lv_room (Nat.le_of_ble_eq_true rfl)) dL_places_306 ⟨nle0 hm, nle0 hn⟩⟩) (fun H locs hW hS => ?_)
              refine lv_iload hx hb dL_places_309 (lv_at hl 7 rfl) ?_
              refine lv_icmp_le (tgt := 318) hx hb dL_places_311 (by decide) (fun c120 => ?_) (fun c120 => ?_)
              · have hf := if_of_pos hf c120
                refine lv_iconst (v := 0) hx hb dL_places_318 (by decide) ?_
                refine lv_icmp_ne (tgt := 326) hx hb dL_places_319 (by decide) (fun c121 => absurd c121 (by decide)) (fun c121 => ?_)
                refine lv_iconst (v := 1) hx hb dL_places_322 (by decide) ?_
                refine lv_goto (tgt := 327) hx hb dL_places_323 (by decide) ?_
                exact wL_places_J327 hC hK hA hX hst _ _ _ _ _ _ _ q106.2 σ2 v5 v16 v17 1 hm hn hW hS (lv_sub hl [1, 2, 4, 9, 10] rfl) hf
              · have hf := if_of_neg hf c120
                refine lv_iconst (v := 1) hx hb dL_places_314 (by decide) ?_
                refine lv_goto (tgt := 319) hx hb dL_places_315 (by decide) ?_
                refine lv_icmp_ne (tgt := 326) hx hb dL_places_319 (by decide) (fun c122 => ?_) (fun c122 => absurd c122 (by decide))
                refine lv_iconst (v := 0) hx hb dL_places_326 (by decide) ?_
                exact wL_places_J327 hC hK hA hX hst _ _ _ _ _ _ _ q106.2 σ2 v5 v16 v17 0 hm hn hW hS (lv_sub hl [1, 2, 4, 9, 10] rfl) hf
            · have hf := if_of_neg hf c114
              refine lv_iconst (v := 1) hx hb dL_places_300 (by decide) ?_
              refine lv_goto (tgt := 305) hx hb dL_places_301 (by decide) ?_
              refine lv_aload_n hx hb dL_places_305 rfl (lv_at hl 1 rfl) ?_
              obtain ⟨q123, hcq123, hf⟩ := bd_of hf
              refine kdP_i (rest := [.int 1]) (r := q123) (σ' := q106.2) ⟨rfl, rfl, rfl, rfl, rfl, rfl, rfl⟩ hA hW hS (fun ad g0 hR => by subst g0; exact ⟨_, va_runV (As := []) ⟨hx, hb, hml, hown, hts⟩ (mX5_trades l D dA ad q106.2 _ q123 hcq123) (cwV 0 hts gL_101 rfl rfl rfl (by decide +kernel) ⟨Nat.le_of_ble_eq_true rfl, Nat.le_of_ble_eq_true rfl⟩) (preV_of hR hK (f := 0) (i := 0) rfl rfl rfl _) rfl rfl hl.1 rfl (lv_room (Nat.le_of_ble_eq_true rfl)) dL_places_306 ⟨nle0 hm, nle0 hn⟩⟩) (fun H locs hW hS => ?_)
              refine lv_iload hx hb dL_places_309 (lv_at hl 7 rfl) ?_
              refine lv_icmp_le (tgt := 318) hx hb dL_places_311 (by decide) (fun c128 => ?_) (fun c128 => ?_)
              · have hf := if_of_pos hf c128
                refine lv_iconst (v := 0) hx hb dL_places_318 (by decide) ?_
                refine lv_icmp_ne (tgt := 326) hx hb dL_places_319 (by decide) (fun c129 => ?_) (fun c129 => absurd c129 (by decide))
                refine lv_iconst (v := 0) hx hb dL_places_326 (by decide) ?_
                exact wL_places_J327 hC hK hA hX hst _ _ _ _ _ _ _ q106.2 σ2 v5 v16 v17 0 hm hn hW hS (lv_sub hl [1, 2, 4, 9, 10] rfl) hf
              · have hf := if_of_neg hf c128
                refine lv_iconst (v := 1) hx hb dL_places_314 (by decide) ?_
                refine lv_goto (tgt := 319) hx hb dL_places_315 (by decide) ?_
                refine lv_icmp_ne (tgt := 326) hx hb dL_places_319 (by decide) (fun c130 => absurd c130 (by decide)) (fun c130 => ?_)
                refine lv_iconst (v := 1) hx hb dL_places_322 (by decide) ?_
                refine lv_goto (tgt := 327) hx hb dL_places_323 (by decide) ?_
                exact wL_places_J327 hC hK hA hX hst _ _ _ _ _ _ _ q106.2 σ2 v5 v16 v17 1 hm hn hW hS (lv_sub hl [1, 2, 4, 9, 10] rfl) hf
def fL_places_J224 (σ1 σ2 : St) (v2 : Int32) (v4 : Int32) (v5 : Int32) (v6 : Int32) (v8 : Int32) (v9 : Int64) (v11 : Int32) (v12 : Int32) (v15 : Int32) (v16 : Int32) (t0 : Int32) : Option ((Int32 × St × St) × Nat × Nat) := if ¬ v6 = 1 then yb (fX5_position σ1 v4 v5) (fun q83 => fL_places_J257 q83.2 σ2 v2 v5 v8 v9 v12 v15 v16 t0 (v11 - q83.1)) else yb (fX5_position σ1 v4 v5) (fun q131 => fL_places_J257 q131.2 σ2 v2 v5 v8 v9 v12 v15 v16 t0 (q131.1 - v11))
set_option maxHeartbeats 4000000 in
set_option maxRecDepth 100000 in
theorem wL_places_J224 {p : Program} {l : Launch} {e : Env} {s : State} {m : MethodId} {args : Array Value} {below : List Frame} {meth : Method} {c : Code} {D : va_G} {dA : Nat → ClassId} {A0 : Nat → Prop} {x mi mc ms h1 h2 : Nat} {r : Int32} {σ1' σ2' : St} (hC : CTX p s m args meth c cL_places 22 RL (some .boolean)) (hK : KS D dA s) (hA : ∀ q, s.heap.size ≤ q → A0 q) (hX : EXT x mi A0 s s.heap) (hst : l.stackTraces = false) : ∀ (H : Heap) (locs : List Loc) (ls : Array Slot) (c0 s0 mr sr : Nat) (σ1 σ2 : St) (v2 : Int32) (v4 : Int32) (v5 : Int32) (v6 : Int32) (v8 : Int32) (v9 : Int64) (v11 : Int32) (v12 : Int32) (v15 : Int32) (v16 : Int32) (t0 : Int32), mc = c0 + mr → ms = s0 + sr → W2 D dA x h1 h2 σ1 σ2 A0 H → va_S A0 s.heap H locs → lv_has ls 22 [(0, .ref h1), (1, .ref h2), (2, .int v2), (4, .int v4), (5, .int v5), (6, .int v6), (8, .int v8), (9, .long v9), (11, .int v11), (12, .int v12), (15, .int v15), (16, .int v16)] → fL_places_J224 σ1 σ2 v2 v4 v5 v6 v8 v9 v11 v12 v15 v16 t0 = some ((r, σ1', σ2'), mr, sr) → W p l e ({ frames := 14, cells := mc, slots := ms, locals := 351 } : Room) s m args below meth c H locs c0 s0 (MQ below (va_Qi (fun (z : Int32) (_ : Unit) => z = r) (fun _ t => W2 D dA x h1 h2 σ1' σ2' A0 t.heap) A0) args s mc ms A0) (F0 m 224 ls [.int t0]) := by
  obtain ⟨hx, hb, hml, hown, hts, hr, hlk⟩ := id hC
  intro H locs ls c0 s0 mr sr σ1 σ2 v2 v4 v5 v6 v8 v9 v11 v12 v15 v16 t0 hm hn hW hS hl hf
  unfold fL_places_J224 at hf
  refine lv_istore (lv' := [(17, .int t0), (0, .ref h1), (1, .ref h2), (2, .int v2), (4, .int v4), (5, .int v5), (6, .int v6), (8, .int v8), (9, .long v9), (11, .int v11), (12, .int v12), (15, .int v15), (16, .int v16)]) hx hb dL_places_224 hl (by decide) rfl (fun ls hl => ?_)
  refine lv_iload hx hb dL_places_226 (lv_at hl 6 rfl) ?_
  refine lv_iconst (v := 1) hx hb dL_places_228 (by decide) ?_
  refine lv_icmp_ne (tgt := 246) hx hb dL_places_229 (by decide) (fun c82 => ?_) (fun c82 => ?_)
  · have hf := if_of_pos hf c82
    refine lv_iload hx hb dL_places_246 (lv_at hl 9 rfl) ?_
    refine lv_aload_n hx hb dL_places_248 rfl (lv_at hl 1 rfl) ?_
    refine lv_iload hx hb dL_places_249 (lv_at hl 4 rfl) ?_
    refine lv_iload hx hb dL_places_251 (lv_at hl 5 rfl) ?_
    obtain ⟨q83, m84, n85, m86, n87, hcq83, hf, hem, hen⟩ := yb_of hf
    refine kdX_i (X := []) (rest := [.int v11]) (q := q83) (by decide) hA hW hS (fun ad g0 hR hLX => by subst g0; exact ⟨_, vx_runV (As := [.int v4, .int v5]) ⟨hx, hb, hml, hown, hts⟩ (mX5_position l hst D dA ad σ1 _ x mi v4 v5 (.inr q83) m84 n85 hcq83) (cwV 2 hts gL_74 rfl rfl rfl (by decide +kernel) ⟨Nat.le_of_ble_eq_true rfl, Nat.le_of_ble_eq_true rfl⟩) (preVA_of hA hR hS hK hX hLX _) rfl rfl hl.1 rfl (lv_room (Nat.le_of_ble_eq_true rfl)) dL_places_253 ⟨nle hm hem, nle hn hen⟩⟩) (fun H locs hW hS => ?_)
    have hm := nadd hm hem
    have hn := nadd hn hen
    refine lv_isub hx hb dL_places_256 ?_
    exact wL_places_J257 hC hK hA hX hst _ _ _ _ _ _ _ q83.2 σ2 v2 v5 v8 v9 v12 v15 v16 t0 (v11 - q83.1) hm hn hW hS (lv_sub hl [1, 2, 3, 5, 7, 8, 10, 11, 12, 0] rfl) hf
  · have hf := if_of_neg hf (fun q => q c82)
    refine lv_aload_n hx hb dL_places_232 rfl (lv_at hl 1 rfl) ?_
    refine lv_iload hx hb dL_places_233 (lv_at hl 4 rfl) ?_
    refine lv_iload hx hb dL_places_235 (lv_at hl 5 rfl) ?_
    obtain ⟨q131, m132, n133, m134, n135, hcq131, hf, hem, hen⟩ := yb_of hf
    refine kdX_i (X := []) (rest := []) (q := q131) (by decide) hA hW hS (fun ad g0 hR hLX => by subst g0; exact ⟨_, vx_runV (As := [.int v4, .int v5]) ⟨hx, hb, hml, hown, hts⟩ (mX5_position l hst D dA ad σ1 _ x mi v4 v5 (.inr q131) m132 n133 hcq131) (cwV 2 hts gL_74 rfl rfl rfl (by decide +kernel) ⟨Nat.le_of_ble_eq_true rfl, Nat.le_of_ble_eq_true rfl⟩) (preVA_of hA hR hS hK hX hLX _) rfl rfl hl.1 rfl (lv_room (Nat.le_of_ble_eq_true rfl)) dL_places_237 ⟨nle hm hem, nle hn hen⟩⟩) (fun H locs hW hS => ?_)
    have hm := nadd hm hem
    have hn := nadd hn hen
    refine lv_iload hx hb dL_places_240 (lv_at hl 9 rfl) ?_
    refine lv_isub hx hb dL_places_242 ?_
    refine lv_goto (tgt := 257) hx hb dL_places_243 (by decide) ?_
    exact wL_places_J257 hC hK hA hX hst _ _ _ _ _ _ _ q131.2 σ2 v2 v5 v8 v9 v12 v15 v16 t0 (q131.1 - v11) hm hn hW hS (lv_sub hl [1, 2, 3, 5, 7, 8, 10, 11, 12, 0] rfl) hf
def fL_places_J103 (σ1 σ2 : St) (v2 : Int32) (v3 : Int32) (v4 : Int32) (v5 : Int32) (v6 : Int32) (v7 : Int32) (t0 : Int32) (t1 : Int32) (t2 : Int32) : Option ((Int32 × St × St) × Nat × Nat) := bd (fL_some σ1 t1 t0) (fun q39 => kst (t2 + q39) (fun x44 => bt2 (fL_equities σ1) (fun q45 => yb (fX5_position q45.2 v4 v5) (fun q50 => bd (fX5_trades q50.2) (fun q55 => bt2 (fL_all q50.2 v2) (fun q60 => yb (fX5_hasFailed q60.2 v4) (fun q65 => bt2 (fL_both q65.2 σ2 6 v4 ((2 * v5) + v6) (((256 * v7) + x44) + 1)) (fun q70 => if ¬ q70.1 = (-2000000003) then if 0 ≤ q70.1 then yb (fX5_left q70.2.1 q70.1) (fun q77 => fL_places_J224 q77.2 q70.2.2 v2 v4 v5 v6 x44 q45.1 q50.1 q55 q65.1 q70.1 q77.1) else fL_places_J224 q70.2.1 q70.2.2 v2 v4 v5 v6 x44 q45.1 q50.1 q55 q65.1 q70.1 0 else bt2 (fL_all q70.2.1 v2) (fun q136 => if ¬ q136.1 = q60.1 then some ((0, q136.2, q70.2.2), 0, 0) else bt2 (fL_equities q136.2) (fun q142 => if ¬ q142.1 = q45.1 then some ((0, q142.2, q70.2.2), 0, 0) else some ((1, q142.2, q70.2.2), 0, 0)))))))))))
set_option maxHeartbeats 4000000 in
set_option maxRecDepth 100000 in
theorem wL_places_J103 {p : Program} {l : Launch} {e : Env} {s : State} {m : MethodId} {args : Array Value} {below : List Frame} {meth : Method} {c : Code} {D : va_G} {dA : Nat → ClassId} {A0 : Nat → Prop} {x mi mc ms h1 h2 : Nat} {r : Int32} {σ1' σ2' : St} (hC : CTX p s m args meth c cL_places 22 RL (some .boolean)) (hK : KS D dA s) (hA : ∀ q, s.heap.size ≤ q → A0 q) (hX : EXT x mi A0 s s.heap) (hst : l.stackTraces = false) : ∀ (H : Heap) (locs : List Loc) (ls : Array Slot) (c0 s0 mr sr : Nat) (σ1 σ2 : St) (v2 : Int32) (v3 : Int32) (v4 : Int32) (v5 : Int32) (v6 : Int32) (v7 : Int32) (t0 : Int32) (t1 : Int32) (t2 : Int32), mc = c0 + mr → ms = s0 + sr → W2 D dA x h1 h2 σ1 σ2 A0 H → va_S A0 s.heap H locs → lv_has ls 22 [(0, .ref h1), (1, .ref h2), (2, .int v2), (3, .int v3), (4, .int v4), (5, .int v5), (6, .int v6), (7, .int v7)] → fL_places_J103 σ1 σ2 v2 v3 v4 v5 v6 v7 t0 t1 t2 = some ((r, σ1', σ2'), mr, sr) → W p l e ({ frames := 14, cells := mc, slots := ms, locals := 351 } : Room) s m args below meth c H locs c0 s0 (MQ below (va_Qi (fun (z : Int32) (_ : Unit) => z = r) (fun _ t => W2 D dA x h1 h2 σ1' σ2' A0 t.heap) A0) args s mc ms A0) (F0 m 103 ls [.int t0, .int t1, .int t2]) := by
  obtain ⟨hx, hb, hml, hown, hts, hr, hlk⟩ := id hC
  intro H locs ls c0 s0 mr sr σ1 σ2 v2 v3 v4 v5 v6 v7 t0 t1 t2 hm hn hW hS hl hf
  unfold fL_places_J103 at hf
  obtain ⟨q39, hcq39, hf⟩ := bd_of hf
  refine kdP_i (rest := [.int t2]) (r := q39) (σ' := σ1) ⟨rfl, rfl, rfl, rfl, rfl, rfl, rfl⟩ hA hW hS (fun ad g0 hR => by subst g0; exact ⟨_, va_runS (As := [.int t1, .int t0]) ⟨hx, hb, hml, hown, hts⟩ (mL_some l D dA ad σ1 _ t1 t0 q39 hcq39) (va_cwS 2 hts gL_128 rfl rfl rfl (by decide +kernel) ⟨Nat.le_of_ble_eq_true rfl, Nat.le_of_ble_eq_true rfl⟩) (preS_of hR hK _) rfl rfl hl.1 rfl (lv_room (Nat.le_of_ble_eq_true rfl)) dL_places_103 ⟨nle0 hm, nle0 hn⟩⟩) (fun H locs hW hS => ?_)
  refine lv_iadd hx hb dL_places_106 ?_
  refine lv_topi (fun x44 hx44 => ?_)
  have hf := kst_eq hx44 hf
  refine lv_istore (lv' := [(8, .int x44), (0, .ref h1), (1, .ref h2), (2, .int v2), (3, .int v3), (4, .int v4), (5, .int v5), (6, .int v6), (7, .int v7)]) hx hb dL_places_107 hl (by decide) rfl (fun ls hl => ?_)
  refine lv_aload_n hx hb dL_places_109 rfl (lv_at hl 1 rfl) ?_
  obtain ⟨q45, m46, n47, m48, n49, hcq45, hf, hem, hen⟩ := bt2_of hf
  refine kdA_l (X := [13, 15]) (rest := []) (r := q45.1) (σ' := q45.2) (by decide) hA hW hS (fun ad g0 hR hLX => by subst g0; exact ⟨_, va_runS (As := [.ref (ad 0 0)]) ⟨hx, hb, hml, hown, hts⟩ (mL_equities l hst D dA ad σ1 _ x mi q45.1 q45.2 m46 n47 hcq45) (va_cwS 1 hts gL_139 rfl rfl rfl (by decide +kernel) ⟨Nat.le_of_ble_eq_true rfl, Nat.le_of_ble_eq_true rfl⟩) (preSA_of hA hR hS hK hX hLX _) rfl rfl hl.1 rfl (lv_room (Nat.le_of_ble_eq_true rfl)) dL_places_110 ⟨nle hm hem, nle hn hen⟩⟩) (fun H locs hW hS => ?_)
  have hm := nadd hm hem
  have hn := nadd hn hen
  refine lv_lstore (lv' := [(9, .long q45.1), (8, .int x44), (0, .ref h1), (1, .ref h2), (2, .int v2), (3, .int v3), (4, .int v4), (5, .int v5), (6, .int v6), (7, .int v7)]) hx hb dL_places_113 hl (by decide) rfl (fun ls hl => ?_)
  refine lv_aload_n hx hb dL_places_115 rfl (lv_at hl 2 rfl) ?_
  refine lv_iload hx hb dL_places_116 (lv_at hl 6 rfl) ?_
  refine lv_iload hx hb dL_places_118 (lv_at hl 7 rfl) ?_
  obtain ⟨q50, m51, n52, m53, n54, hcq50, hf, hem, hen⟩ := yb_of hf
  refine kdX_i (X := []) (rest := []) (q := q50) (by decide) hA hW hS (fun ad g0 hR hLX => by subst g0; exact ⟨_, vx_runV (As := [.int v4, .int v5]) ⟨hx, hb, hml, hown, hts⟩ (mX5_position l hst D dA ad q45.2 _ x mi v4 v5 (.inr q50) m51 n52 hcq50) (cwV 2 hts gL_74 rfl rfl rfl (by decide +kernel) ⟨Nat.le_of_ble_eq_true rfl, Nat.le_of_ble_eq_true rfl⟩) (preVA_of hA hR hS hK hX hLX _) rfl rfl hl.1 rfl (lv_room (Nat.le_of_ble_eq_true rfl)) dL_places_120 ⟨nle hm hem, nle hn hen⟩⟩) (fun H locs hW hS => ?_)
  have hm := nadd hm hem
  have hn := nadd hn hen
  refine lv_istore (lv' := [(11, .int q50.1), (9, .long q45.1), (8, .int x44), (0, .ref h1), (1, .ref h2), (2, .int v2), (3, .int v3), (4, .int v4), (5, .int v5), (6, .int v6), (7, .int v7)]) hx hb dL_places_123 hl (by decide) rfl (fun ls hl => ?_)
  refine lv_aload_n hx hb dL_places_125 rfl (lv_at hl 3 rfl) ?_
  obtain ⟨q55, hcq55, hf⟩ := bd_of hf
  refine kdP_i (rest := []) (r := q55) (σ' := q50.2) ⟨rfl, rfl, rfl, rfl, rfl, rfl, rfl⟩ hA hW hS (fun ad g0 hR => by subst g0; exact ⟨_, va_runV (As := []) ⟨hx, hb, hml, hown, hts⟩ (mX5_trades l D dA ad q50.2 _ q55 hcq55) (cwV 0 hts gL_101 rfl rfl rfl (by decide +kernel) ⟨Nat.le_of_ble_eq_true rfl, Nat.le_of_ble_eq_true rfl⟩) (preV_of hR hK (f := 0) (i := 0) rfl rfl rfl _) rfl rfl hl.1 rfl (lv_room (Nat.le_of_ble_eq_true rfl)) dL_places_126 ⟨nle0 hm, nle0 hn⟩⟩) (fun H locs hW hS => ?_)
  refine lv_istore (lv' := [(12, .int q55), (11, .int q50.1), (9, .long q45.1), (8, .int x44), (0, .ref h1), (1, .ref h2), (2, .int v2), (3, .int v3), (4, .int v4), (5, .int v5), (6, .int v6), (7, .int v7)]) hx hb dL_places_129 hl (by decide) rfl (fun ls hl => ?_)
  refine lv_aload_n hx hb dL_places_131 rfl (lv_at hl 4 rfl) ?_
  refine lv_iload_n hx hb dL_places_132 rfl (lv_at hl 6 rfl) ?_
  obtain ⟨q60, m61, n62, m63, n64, hcq60, hf, hem, hen⟩ := bt2_of hf
  refine kdA_l (X := [13, 15]) (rest := []) (r := q60.1) (σ' := q60.2) (by decide) hA hW hS (fun ad g0 hR hLX => by subst g0; exact ⟨_, va_runS (As := [.ref (ad 0 0), .int v2]) ⟨hx, hb, hml, hown, hts⟩ (mL_all l hst D dA ad q50.2 _ x mi v2 q60.1 q60.2 m61 n62 hcq60) (va_cwS 2 hts gL_135 rfl rfl rfl (by decide +kernel) ⟨Nat.le_of_ble_eq_true rfl, Nat.le_of_ble_eq_true rfl⟩) (preSA_of hA hR hS hK hX hLX _) rfl rfl hl.1 rfl (lv_room (Nat.le_of_ble_eq_true rfl)) dL_places_133 ⟨nle hm hem, nle hn hen⟩⟩) (fun H locs hW hS => ?_)
  have hm := nadd hm hem
  have hn := nadd hn hen
  refine lv_lstore (lv' := [(13, .long q60.1), (12, .int q55), (11, .int q50.1), (9, .long q45.1), (8, .int x44), (0, .ref h1), (1, .ref h2), (2, .int v2), (3, .int v3), (4, .int v4), (5, .int v5), (6, .int v6), (7, .int v7)]) hx hb dL_places_136 hl (by decide) rfl (fun ls hl => ?_)
  refine lv_aload_n hx hb dL_places_138 rfl (lv_at hl 5 rfl) ?_
  refine lv_iload hx hb dL_places_139 (lv_at hl 9 rfl) ?_
  obtain ⟨q65, m66, n67, m68, n69, hcq65, hf, hem, hen⟩ := yb_of hf
  refine kdX_i (X := []) (rest := []) (q := q65) (by decide) hA hW hS (fun ad g0 hR hLX => by subst g0; exact ⟨_, vx_runV (As := [.int v4]) ⟨hx, hb, hml, hown, hts⟩ (mX5_hasFailed l hst D dA ad q60.2 _ x mi v4 (.inr q65) m66 n67 hcq65) (cwV 1 hts gL_70 rfl rfl rfl (by decide +kernel) ⟨Nat.le_of_ble_eq_true rfl, Nat.le_of_ble_eq_true rfl⟩) (preVA_of hA hR hS hK hX hLX _) rfl rfl hl.1 rfl (lv_room (Nat.le_of_ble_eq_true rfl)) dL_places_141 ⟨nle hm hem, nle hn hen⟩⟩) (fun H locs hW hS => ?_)
  have hm := nadd hm hem
  have hn := nadd hn hen
  refine lv_istore (lv' := [(15, .int q65.1), (13, .long q60.1), (12, .int q55), (11, .int q50.1), (9, .long q45.1), (8, .int x44), (0, .ref h1), (1, .ref h2), (2, .int v2), (3, .int v3), (4, .int v4), (5, .int v5), (6, .int v6), (7, .int v7)]) hx hb dL_places_144 hl (by decide) rfl (fun ls hl => ?_)
  refine lv_aload_n hx hb dL_places_146 rfl (lv_at hl 6 rfl) ?_
  refine lv_aload_n hx hb dL_places_147 rfl (lv_at hl 7 rfl) ?_
  refine lv_bipush (v := 6) hx hb dL_places_148 (by decide) ?_
  refine lv_iload hx hb dL_places_150 (lv_at hl 10 rfl) ?_
  refine lv_iconst (v := 2) hx hb dL_places_152 (by decide) ?_
  refine lv_iload hx hb dL_places_153 (lv_at hl 11 rfl) ?_
  refine lv_imul hx hb dL_places_155 ?_
  refine lv_iload hx hb dL_places_156 (lv_at hl 12 rfl) ?_
  refine lv_iadd hx hb dL_places_158 ?_
  refine lv_sipush (v := 256) hx hb dL_places_159 (by decide) ?_
  refine lv_iload hx hb dL_places_162 (lv_at hl 13 rfl) ?_
  refine lv_imul hx hb dL_places_164 ?_
  refine lv_iload hx hb dL_places_165 (lv_at hl 5 rfl) ?_
  refine lv_iadd hx hb dL_places_167 ?_
  refine lv_iconst (v := 1) hx hb dL_places_168 (by decide) ?_
  refine lv_iadd hx hb dL_places_169 ?_
  obtain ⟨q70, m71, n72, m73, n74, hcq70, hf, hem, hen⟩ := bt2_of hf
  refine kdD_i (rest := []) hS (va_runS (As := [.ref h1, .ref h2, .int 6, .int v4, .int ((2 * v5) + v6), .int (((256 * v7) + x44) + 1)]) ⟨hx, hb, hml, hown, hts⟩ (mL_both l hst D dA x mi h1 h2 q65.2 σ2 A0 _ 6 v4 ((2 * v5) + v6) (((256 * v7) + x44) + 1) q70.1 q70.2.1 q70.2.2 m71 n72 hcq70) (va_cwS 6 hts gL_131 rfl rfl rfl (by decide +kernel) ⟨Nat.le_of_ble_eq_true rfl, Nat.le_of_ble_eq_true rfl⟩) (preD_of hA hW hS hK hX _) rfl rfl hl.1 rfl (lv_room (Nat.le_of_ble_eq_true rfl)) dL_places_170 ⟨nle hm hem, nle hn hen⟩) (fun H locs hW hS => ?_)
  have hm := nadd hm hem
  have hn := nadd hn hen
  refine lv_istore (lv' := [(16, .int q70.1), (15, .int q65.1), (13, .long q60.1), (12, .int q55), (11, .int q50.1), (9, .long q45.1), (8, .int x44), (0, .ref h1), (1, .ref h2), (2, .int v2), (3, .int v3), (4, .int v4), (5, .int v5), (6, .int v6), (7, .int v7)]) hx hb dL_places_173 hl (by decide) rfl (fun ls hl => ?_)
  refine lv_iload hx hb dL_places_175 (lv_at hl 0 rfl) ?_
  refine lv_ldc (v := (-2000000003)) hx hb hown (hts _ q_637) dL_places_177 ?_
  refine lv_icmp_ne (tgt := 209) hx hb dL_places_179 (by decide) (fun c75 => ?_) (fun c75 => ?_)
  · have hf := if_of_pos hf c75
    refine lv_iload hx hb dL_places_209 (lv_at hl 0 rfl) ?_
    refine lv_if_ge (tgt := 218) hx hb dL_places_211 (by decide) (fun c76 => ?_) (fun c76 => ?_)
    · have hf := if_of_pos hf c76
      refine lv_aload_n hx hb dL_places_218 rfl (lv_at hl 7 rfl) ?_
      refine lv_iload hx hb dL_places_219 (lv_at hl 0 rfl) ?_
      obtain ⟨q77, m78, n79, m80, n81, hcq77, hf, hem, hen⟩ := yb_of hf
      refine kdX_i (X := []) (rest := []) (q := q77) (by decide) hA hW hS (fun ad g0 hR hLX => by subst g0; exact ⟨_, vx_runV (As := [.int q70.1]) ⟨hx, hb, hml, hown, hts⟩ (mX5_left l hst D dA ad q70.2.1 _ x mi q70.1 (.inr q77) m78 n79 hcq77) (cwV 1 hts gL_61 rfl rfl rfl (by decide +kernel) ⟨Nat.le_of_ble_eq_true rfl, Nat.le_of_ble_eq_true rfl⟩) (preVA_of hA hR hS hK hX hLX _) rfl rfl hl.1 rfl (lv_room (Nat.le_of_ble_eq_true rfl)) dL_places_221 ⟨nle hm hem, nle hn hen⟩⟩) (fun H locs hW hS => ?_)
      have hm := nadd hm hem
      have hn := nadd hn hen
      exact wL_places_J224 hC hK hA hX hst _ _ _ _ _ _ _ q77.2 q70.2.2 v2 v4 v5 v6 x44 q45.1 q50.1 q55 q65.1 q70.1 q77.1 hm hn hW hS (lv_sub hl [7, 8, 9, 11, 12, 13, 6, 5, 4, 3, 1, 0] rfl) hf
    · have hf := if_of_neg hf c76
      refine lv_iconst (v := 0) hx hb dL_places_214 (by decide) ?_
      refine lv_goto (tgt := 224) hx hb dL_places_215 (by decide) ?_
      exact wL_places_J224 hC hK hA hX hst _ _ _ _ _ _ _ q70.2.1 q70.2.2 v2 v4 v5 v6 x44 q45.1 q50.1 q55 q65.1 q70.1 0 hm hn hW hS (lv_sub hl [7, 8, 9, 11, 12, 13, 6, 5, 4, 3, 1, 0] rfl) hf
  · have hf := if_of_neg hf (fun q => q c75)
    refine lv_aload_n hx hb dL_places_182 rfl (lv_at hl 7 rfl) ?_
    refine lv_iload_n hx hb dL_places_183 rfl (lv_at hl 9 rfl) ?_
    obtain ⟨q136, m137, n138, m139, n140, hcq136, hf, hem, hen⟩ := bt2_of hf
    refine kdA_l (X := [13, 15]) (rest := []) (r := q136.1) (σ' := q136.2) (by decide) hA hW hS (fun ad g0 hR hLX => by subst g0; exact ⟨_, va_runS (As := [.ref (ad 0 0), .int v2]) ⟨hx, hb, hml, hown, hts⟩ (mL_all l hst D dA ad q70.2.1 _ x mi v2 q136.1 q136.2 m137 n138 hcq136) (va_cwS 2 hts gL_135 rfl rfl rfl (by decide +kernel) ⟨Nat.le_of_ble_eq_true rfl, Nat.le_of_ble_eq_true rfl⟩) (preSA_of hA hR hS hK hX hLX _) rfl rfl hl.1 rfl (lv_room (Nat.le_of_ble_eq_true rfl)) dL_places_184 ⟨nle hm hem, nle hn hen⟩⟩) (fun H locs hW hS => ?_)
    have hm := nadd hm hem
    have hn := nadd hn hen
    refine lv_lload hx hb dL_places_187 (lv_at hl 2 rfl) ?_
    refine W.lcmp hx hb dL_places_189 ?_
    refine lv_if_ne (tgt := 207) hx hb dL_places_190 (by decide) (fun c1410 => ?_) (fun c1410 => ?_)
    · have c141 : ¬ q136.1 = q60.1 := fun q => c1410 ((lg_cmp_eq _ _).mpr q)
      have hf := if_of_pos hf c141
      refine lv_iconst (v := 0) hx hb dL_places_207 (by decide) ?_
      cases hf
      exact retd_z (by decide) hC hW hS (nfin hm) (nfin hn) dL_places_208
    · have c141 : ¬ ¬ q136.1 = q60.1 := fun q => q ((lg_cmp_eq _ _).mp c1410)
      have hf := if_of_neg hf c141
      refine lv_aload_n hx hb dL_places_193 rfl (lv_at hl 7 rfl) ?_
      obtain ⟨q142, m143, n144, m145, n146, hcq142, hf, hem, hen⟩ := bt2_of hf
      refine kdA_l (X := [13, 15]) (rest := []) (r := q142.1) (σ' := q142.2) (by decide) hA hW hS (fun ad g0 hR hLX => by subst g0; exact ⟨_, va_runS (As := [.ref (ad 0 0)]) ⟨hx, hb, hml, hown, hts⟩ (mL_equities l hst D dA ad q136.2 _ x mi q142.1 q142.2 m143 n144 hcq142) (va_cwS 1 hts gL_139 rfl rfl rfl (by decide +kernel) ⟨Nat.le_of_ble_eq_true rfl, Nat.le_of_ble_eq_true rfl⟩) (preSA_of hA hR hS hK hX hLX _) rfl rfl hl.1 rfl (lv_room (Nat.le_of_ble_eq_true rfl)) dL_places_194 ⟨nle hm hem, nle hn hen⟩⟩) (fun H locs hW hS => ?_)
      have hm := nadd hm hem
      have hn := nadd hn hen
      refine lv_lload hx hb dL_places_197 (lv_at hl 5 rfl) ?_
      refine W.lcmp hx hb dL_places_199 ?_
      refine lv_if_ne (tgt := 207) hx hb dL_places_200 (by decide) (fun c1470 => ?_) (fun c1470 => ?_)
      · have c147 : ¬ q142.1 = q45.1 := fun q => c1470 ((lg_cmp_eq _ _).mpr q)
        have hf := if_of_pos hf c147
        refine lv_iconst (v := 0) hx hb dL_places_207 (by decide) ?_
        cases hf
        exact retd_z (by decide) hC hW hS (nfin hm) (nfin hn) dL_places_208
      · have c147 : ¬ ¬ q142.1 = q45.1 := fun q => q ((lg_cmp_eq _ _).mp c1470)
        have hf := if_of_neg hf c147
        refine lv_iconst (v := 1) hx hb dL_places_203 (by decide) ?_
        refine lv_goto (tgt := 208) hx hb dL_places_204 (by decide) ?_
        cases hf
        exact retd_z (by decide) hC hW hS (nfin hm) (nfin hn) dL_places_208
def fL_places_J78 (σ1 σ2 : St) (v2 : Int32) (v3 : Int32) (v4 : Int32) (v5 : Int32) (v6 : Int32) (t0 : Int32) : Option ((Int32 × St × St) × Nat × Nat) := bd (fL_some σ1 (v3 >>> (7 &&& 31)) 3) (fun q33 => if ¬ q33 = 0 then fL_places_J103 σ1 σ2 v2 v3 v4 v5 v6 t0 15 (v3 >>> (9 &&& 31)) 1 else fL_places_J103 σ1 σ2 v2 v3 v4 v5 v6 t0 60 (v3 >>> (9 &&& 31)) 1)
set_option maxHeartbeats 4000000 in
set_option maxRecDepth 100000 in
theorem wL_places_J78 {p : Program} {l : Launch} {e : Env} {s : State} {m : MethodId} {args : Array Value} {below : List Frame} {meth : Method} {c : Code} {D : va_G} {dA : Nat → ClassId} {A0 : Nat → Prop} {x mi mc ms h1 h2 : Nat} {r : Int32} {σ1' σ2' : St} (hC : CTX p s m args meth c cL_places 22 RL (some .boolean)) (hK : KS D dA s) (hA : ∀ q, s.heap.size ≤ q → A0 q) (hX : EXT x mi A0 s s.heap) (hst : l.stackTraces = false) : ∀ (H : Heap) (locs : List Loc) (ls : Array Slot) (c0 s0 mr sr : Nat) (σ1 σ2 : St) (v2 : Int32) (v3 : Int32) (v4 : Int32) (v5 : Int32) (v6 : Int32) (t0 : Int32), mc = c0 + mr → ms = s0 + sr → W2 D dA x h1 h2 σ1 σ2 A0 H → va_S A0 s.heap H locs → lv_has ls 22 [(0, .ref h1), (1, .ref h2), (2, .int v2), (3, .int v3), (4, .int v4), (5, .int v5), (6, .int v6)] → fL_places_J78 σ1 σ2 v2 v3 v4 v5 v6 t0 = some ((r, σ1', σ2'), mr, sr) → W p l e ({ frames := 14, cells := mc, slots := ms, locals := 351 } : Room) s m args below meth c H locs c0 s0 (MQ below (va_Qi (fun (z : Int32) (_ : Unit) => z = r) (fun _ t => W2 D dA x h1 h2 σ1' σ2' A0 t.heap) A0) args s mc ms A0) (F0 m 78 ls [.int t0]) := by
  obtain ⟨hx, hb, hml, hown, hts, hr, hlk⟩ := id hC
  intro H locs ls c0 s0 mr sr σ1 σ2 v2 v3 v4 v5 v6 t0 hm hn hW hS hl hf
  unfold fL_places_J78 at hf
  refine lv_istore (lv' := [(7, .int t0), (0, .ref h1), (1, .ref h2), (2, .int v2), (3, .int v3), (4, .int v4), (5, .int v5), (6, .int v6)]) hx hb dL_places_78 hl (by decide) rfl (fun ls hl => ?_)
  refine lv_iconst (v := 1) hx hb dL_places_80 (by decide) ?_
  refine lv_iload_n hx hb dL_places_81 rfl (lv_at hl 4 rfl) ?_
  refine lv_bipush (v := 9) hx hb dL_places_82 (by decide) ?_
  refine lv_ishr hx hb dL_places_84 ?_
  refine lv_iload_n hx hb dL_places_85 rfl (lv_at hl 4 rfl) ?_
  refine lv_bipush (v := 7) hx hb dL_places_86 (by decide) ?_
  refine lv_ishr hx hb dL_places_88 ?_
  refine lv_iconst (v := 3) hx hb dL_places_89 (by decide) ?_
  obtain ⟨q33, hcq33, hf⟩ := bd_of hf
  refine kdP_i (rest := [.int (v3 >>> (9 &&& 31)), .int 1]) (r := q33) (σ' := σ1) ⟨rfl, rfl, rfl, rfl, rfl, rfl, rfl⟩ hA hW hS (fun ad g0 hR => by subst g0; exact ⟨_, va_runS (As := [.int (v3 >>> (7 &&& 31)), .int 3]) ⟨hx, hb, hml, hown, hts⟩ (mL_some l D dA ad σ1 _ (v3 >>> (7 &&& 31)) 3 q33 hcq33) (va_cwS 2 hts gL_128 rfl rfl rfl (by decide +kernel) ⟨Nat.le_of_ble_eq_true rfl, Nat.le_of_ble_eq_true rfl⟩) (preS_of hR hK _) rfl rfl hl.1 rfl (lv_room (Nat.le_of_ble_eq_true rfl)) dL_places_90 ⟨nle0 hm, nle0 hn⟩⟩) (fun H locs hW hS => ?_)
  refine lv_if_ne (tgt := 101) hx hb dL_places_93 (by decide) (fun c38 => ?_) (fun c38 => ?_)
  · have hf := if_of_pos hf c38
    refine lv_bipush (v := 15) hx hb dL_places_101 (by decide) ?_
    exact wL_places_J103 hC hK hA hX hst _ _ _ _ _ _ _ σ1 σ2 v2 v3 v4 v5 v6 t0 15 (v3 >>> (9 &&& 31)) 1 hm hn hW hS (lv_sub hl [1, 2, 3, 4, 5, 6, 7, 0] rfl) hf
  · have hf := if_of_neg hf (fun q => q c38)
    refine lv_bipush (v := 60) hx hb dL_places_96 (by decide) ?_
    refine lv_goto (tgt := 103) hx hb dL_places_98 (by decide) ?_
    exact wL_places_J103 hC hK hA hX hst _ _ _ _ _ _ _ σ1 σ2 v2 v3 v4 v5 v6 t0 60 (v3 >>> (9 &&& 31)) 1 hm hn hW hS (lv_sub hl [1, 2, 3, 4, 5, 6, 7, 0] rfl) hf
def fL_places_J25 (σ1 σ2 : St) (v2 : Int32) (v3 : Int32) (v4 : Int32) (t0 : Int32) (t1 : Int32) : Option ((Int32 × St × St) × Nat × Nat) := bd (fL_some σ1 t1 t0) (fun q12 => bd (fL_some σ1 (v3 >>> (4 &&& 31)) 2) (fun q17 => bd (fL_some σ1 (v3 >>> (6 &&& 31)) 8) (fun q22 => if ¬ q22 = 0 then bd (fL_some σ1 (v3 >>> (8 &&& 31)) 13) (fun q28 => fL_places_J78 σ1 σ2 v2 v3 v4 q12 q17 (94 + q28)) else bd (fL_some σ1 (v3 >>> (8 &&& 31)) 300) (fun q148 => fL_places_J78 σ1 σ2 v2 v3 v4 q12 q17 (1 + q148)))))
set_option maxHeartbeats 4000000 in
set_option maxRecDepth 100000 in
theorem wL_places_J25 {p : Program} {l : Launch} {e : Env} {s : State} {m : MethodId} {args : Array Value} {below : List Frame} {meth : Method} {c : Code} {D : va_G} {dA : Nat → ClassId} {A0 : Nat → Prop} {x mi mc ms h1 h2 : Nat} {r : Int32} {σ1' σ2' : St} (hC : CTX p s m args meth c cL_places 22 RL (some .boolean)) (hK : KS D dA s) (hA : ∀ q, s.heap.size ≤ q → A0 q) (hX : EXT x mi A0 s s.heap) (hst : l.stackTraces = false) : ∀ (H : Heap) (locs : List Loc) (ls : Array Slot) (c0 s0 mr sr : Nat) (σ1 σ2 : St) (v2 : Int32) (v3 : Int32) (v4 : Int32) (t0 : Int32) (t1 : Int32), mc = c0 + mr → ms = s0 + sr → W2 D dA x h1 h2 σ1 σ2 A0 H → va_S A0 s.heap H locs → lv_has ls 22 [(0, .ref h1), (1, .ref h2), (2, .int v2), (3, .int v3), (4, .int v4)] → fL_places_J25 σ1 σ2 v2 v3 v4 t0 t1 = some ((r, σ1', σ2'), mr, sr) → W p l e ({ frames := 14, cells := mc, slots := ms, locals := 351 } : Room) s m args below meth c H locs c0 s0 (MQ below (va_Qi (fun (z : Int32) (_ : Unit) => z = r) (fun _ t => W2 D dA x h1 h2 σ1' σ2' A0 t.heap) A0) args s mc ms A0) (F0 m 25 ls [.int t0, .int t1]) := by
  obtain ⟨hx, hb, hml, hown, hts, hr, hlk⟩ := id hC
  intro H locs ls c0 s0 mr sr σ1 σ2 v2 v3 v4 t0 t1 hm hn hW hS hl hf
  unfold fL_places_J25 at hf
  obtain ⟨q12, hcq12, hf⟩ := bd_of hf
  refine kdP_i (rest := []) (r := q12) (σ' := σ1) ⟨rfl, rfl, rfl, rfl, rfl, rfl, rfl⟩ hA hW hS (fun ad g0 hR => by subst g0; exact ⟨_, va_runS (As := [.int t1, .int t0]) ⟨hx, hb, hml, hown, hts⟩ (mL_some l D dA ad σ1 _ t1 t0 q12 hcq12) (va_cwS 2 hts gL_128 rfl rfl rfl (by decide +kernel) ⟨Nat.le_of_ble_eq_true rfl, Nat.le_of_ble_eq_true rfl⟩) (preS_of hR hK _) rfl rfl hl.1 rfl (lv_room (Nat.le_of_ble_eq_true rfl)) dL_places_25 ⟨nle0 hm, nle0 hn⟩⟩) (fun H locs hW hS => ?_)
  refine lv_istore (lv' := [(5, .int q12), (0, .ref h1), (1, .ref h2), (2, .int v2), (3, .int v3), (4, .int v4)]) hx hb dL_places_28 hl (by decide) rfl (fun ls hl => ?_)
  refine lv_iload_n hx hb dL_places_30 rfl (lv_at hl 4 rfl) ?_
  refine lv_iconst (v := 4) hx hb dL_places_31 (by decide) ?_
  refine lv_ishr hx hb dL_places_32 ?_
  refine lv_iconst (v := 2) hx hb dL_places_33 (by decide) ?_
  obtain ⟨q17, hcq17, hf⟩ := bd_of hf
  refine kdP_i (rest := []) (r := q17) (σ' := σ1) ⟨rfl, rfl, rfl, rfl, rfl, rfl, rfl⟩ hA hW hS (fun ad g0 hR => by subst g0; exact ⟨_, va_runS (As := [.int (v3 >>> (4 &&& 31)), .int 2]) ⟨hx, hb, hml, hown, hts⟩ (mL_some l D dA ad σ1 _ (v3 >>> (4 &&& 31)) 2 q17 hcq17) (va_cwS 2 hts gL_128 rfl rfl rfl (by decide +kernel) ⟨Nat.le_of_ble_eq_true rfl, Nat.le_of_ble_eq_true rfl⟩) (preS_of hR hK _) rfl rfl hl.1 rfl (lv_room (Nat.le_of_ble_eq_true rfl)) dL_places_34 ⟨nle0 hm, nle0 hn⟩⟩) (fun H locs hW hS => ?_)
  refine lv_istore (lv' := [(6, .int q17), (5, .int q12), (0, .ref h1), (1, .ref h2), (2, .int v2), (3, .int v3), (4, .int v4)]) hx hb dL_places_37 hl (by decide) rfl (fun ls hl => ?_)
  refine lv_iload_n hx hb dL_places_39 rfl (lv_at hl 5 rfl) ?_
  refine lv_bipush (v := 6) hx hb dL_places_40 (by decide) ?_
  refine lv_ishr hx hb dL_places_42 ?_
  refine lv_bipush (v := 8) hx hb dL_places_43 (by decide) ?_
  obtain ⟨q22, hcq22, hf⟩ := bd_of hf
  refine kdP_i (rest := []) (r := q22) (σ' := σ1) ⟨rfl, rfl, rfl, rfl, rfl, rfl, rfl⟩ hA hW hS (fun ad g0 hR => by subst g0; exact ⟨_, va_runS (As := [.int (v3 >>> (6 &&& 31)), .int 8]) ⟨hx, hb, hml, hown, hts⟩ (mL_some l D dA ad σ1 _ (v3 >>> (6 &&& 31)) 8 q22 hcq22) (va_cwS 2 hts gL_128 rfl rfl rfl (by decide +kernel) ⟨Nat.le_of_ble_eq_true rfl, Nat.le_of_ble_eq_true rfl⟩) (preS_of hR hK _) rfl rfl hl.1 rfl (lv_room (Nat.le_of_ble_eq_true rfl)) dL_places_45 ⟨nle0 hm, nle0 hn⟩⟩) (fun H locs hW hS => ?_)
  refine lv_if_ne (tgt := 66) hx hb dL_places_48 (by decide) (fun c27 => ?_) (fun c27 => ?_)
  · have hf := if_of_pos hf c27
    refine lv_bipush (v := 94) hx hb dL_places_66 (by decide) ?_
    refine lv_iload_n hx hb dL_places_68 rfl (lv_at hl 5 rfl) ?_
    refine lv_bipush (v := 8) hx hb dL_places_69 (by decide) ?_
    refine lv_ishr hx hb dL_places_71 ?_
    refine lv_bipush (v := 13) hx hb dL_places_72 (by decide) ?_
    obtain ⟨q28, hcq28, hf⟩ := bd_of hf
    refine kdP_i (rest := [.int 94]) (r := q28) (σ' := σ1) ⟨rfl, rfl, rfl, rfl, rfl, rfl, rfl⟩ hA hW hS (fun ad g0 hR => by subst g0; exact ⟨_, va_runS (As := [.int (v3 >>> (8 &&& 31)), .int 13]) ⟨hx, hb, hml, hown, hts⟩ (mL_some l D dA ad σ1 _ (v3 >>> (8 &&& 31)) 13 q28 hcq28) (va_cwS 2 hts gL_128 rfl rfl rfl (by decide +kernel) ⟨Nat.le_of_ble_eq_true rfl, Nat.le_of_ble_eq_true rfl⟩) (preS_of hR hK _) rfl rfl hl.1 rfl (lv_room (Nat.le_of_ble_eq_true rfl)) dL_places_74 ⟨nle0 hm, nle0 hn⟩⟩) (fun H locs hW hS => ?_)
    refine lv_iadd hx hb dL_places_77 ?_
    exact wL_places_J78 hC hK hA hX hst _ _ _ _ _ _ _ σ1 σ2 v2 v3 v4 q12 q17 (94 + q28) hm hn hW hS (lv_sub hl [2, 3, 4, 5, 6, 1, 0] rfl) hf
  · have hf := if_of_neg hf (fun q => q c27)
    refine lv_iconst (v := 1) hx hb dL_places_51 (by decide) ?_
    refine lv_iload_n hx hb dL_places_52 rfl (lv_at hl 5 rfl) ?_
    refine lv_bipush (v := 8) hx hb dL_places_53 (by decide) ?_
    refine lv_ishr hx hb dL_places_55 ?_
    refine lv_sipush (v := 300) hx hb dL_places_56 (by decide) ?_
    obtain ⟨q148, hcq148, hf⟩ := bd_of hf
    refine kdP_i (rest := [.int 1]) (r := q148) (σ' := σ1) ⟨rfl, rfl, rfl, rfl, rfl, rfl, rfl⟩ hA hW hS (fun ad g0 hR => by subst g0; exact ⟨_, va_runS (As := [.int (v3 >>> (8 &&& 31)), .int 300]) ⟨hx, hb, hml, hown, hts⟩ (mL_some l D dA ad σ1 _ (v3 >>> (8 &&& 31)) 300 q148 hcq148) (va_cwS 2 hts gL_128 rfl rfl rfl (by decide +kernel) ⟨Nat.le_of_ble_eq_true rfl, Nat.le_of_ble_eq_true rfl⟩) (preS_of hR hK _) rfl rfl hl.1 rfl (lv_room (Nat.le_of_ble_eq_true rfl)) dL_places_59 ⟨nle0 hm, nle0 hn⟩⟩) (fun H locs hW hS => ?_)
    refine lv_iadd hx hb dL_places_62 ?_
    refine lv_goto (tgt := 78) hx hb dL_places_63 (by decide) ?_
    exact wL_places_J78 hC hK hA hX hst _ _ _ _ _ _ _ σ1 σ2 v2 v3 v4 q12 q17 (1 + q148) hm hn hW hS (lv_sub hl [2, 3, 4, 5, 6, 1, 0] rfl) hf
def fL_places (σ1 σ2 : St) (a3 : Int32) (a4 : Int32) : Option ((Int32 × St × St) × Nat × Nat) := bd (fL_some σ1 a4 5) (fun q1 => bd (fL_some σ1 (a4 >>> (5 &&& 31)) 3) (fun q6 => if ¬ q6 = 0 then fL_places_J25 σ1 σ2 a3 a4 q1 1 (a4 >>> (3 &&& 31)) else fL_places_J25 σ1 σ2 a3 a4 q1 3 (a4 >>> (3 &&& 31))))
set_option maxHeartbeats 4000000 in
set_option maxRecDepth 100000 in
theorem mL_places (l : Launch) (hst : l.stackTraces = false) (D : va_G) (dA : Nat → ClassId) (x mi h1 h2 : Nat) (σ1 σ2 : St) (A0 : Nat → Prop) (sz : Nat) (a3 : Int32) (a4 : Int32) (r : Int32) (σ1' σ2' : St) (mc ms : Nat) (hf : fL_places σ1 σ2 a3 a4 = some ((r, σ1', σ2'), mc, ms)) : Met l yL_places (WSy yL_places cL_places 22 (some .boolean)) ({ frames := 14, cells := mc, slots := ms, locals := 351 } : Room) (va_Pc [.ref h1, .ref h2, .int a3, .int a4] (Pre2 D dA x mi h1 h2 σ1 σ2 A0 sz)) (va_Qi (fun (z : Int32) (_ : Unit) => z = r) (fun _ t => W2 D dA x h1 h2 σ1' σ2' A0 t.heap) A0) mc ms A0 := by
  refine met_of (by decide) (Nat.le_of_ble_eq_true rfl) ?_
  intro p e s m below meth c ls hC hB hl
  obtain ⟨rfl, hA, hW, hK, hX⟩ := hB
  have hS : va_S A0 s.heap s.heap [] := va_S.rf
  have hC : CTX p s m _ meth c cL_places 22 RL (some .boolean) := hC
  obtain ⟨hx, hb, hml, hown, hts, hr, hlk⟩ := id hC
  have hl : lv_has ls 22 [(0, .ref h1), (1, .ref h2), (2, .int a3), (3, .int a4)] := hl
  have hm : mc = 0 + mc := (Nat.zero_add mc).symm
  have hn : ms = 0 + ms := (Nat.zero_add ms).symm
  unfold fL_places at hf
  refine lv_iload_n hx hb dL_places_0 rfl (lv_at hl 3 rfl) ?_
  refine lv_iconst (v := 5) hx hb dL_places_1 (by decide) ?_
  obtain ⟨q1, hcq1, hf⟩ := bd_of hf
  refine kdP_i (rest := []) (r := q1) (σ' := σ1) ⟨rfl, rfl, rfl, rfl, rfl, rfl, rfl⟩ hA hW hS (fun ad g0 hR => by subst g0; exact ⟨_, va_runS (As := [.int a4, .int 5]) ⟨hx, hb, hml, hown, hts⟩ (mL_some l D dA ad σ1 _ a4 5 q1 hcq1) (va_cwS 2 hts gL_128 rfl rfl rfl (by decide +kernel) ⟨Nat.le_of_ble_eq_true rfl, Nat.le_of_ble_eq_true rfl⟩) (preS_of hR hK _) rfl rfl hl.1 rfl (lv_room (Nat.le_of_ble_eq_true rfl)) dL_places_2 ⟨nle0 hm, nle0 hn⟩⟩) (fun H locs hW hS => ?_)
  refine lv_istore (lv' := [(4, .int q1), (0, .ref h1), (1, .ref h2), (2, .int a3), (3, .int a4)]) hx hb dL_places_5 hl (by decide) rfl (fun ls hl => ?_)
  refine lv_iload_n hx hb dL_places_7 rfl (lv_at hl 4 rfl) ?_
  refine lv_iconst (v := 3) hx hb dL_places_8 (by decide) ?_
  refine lv_ishr hx hb dL_places_9 ?_
  refine lv_iload_n hx hb dL_places_10 rfl (lv_at hl 4 rfl) ?_
  refine lv_iconst (v := 5) hx hb dL_places_11 (by decide) ?_
  refine lv_ishr hx hb dL_places_12 ?_
  refine lv_iconst (v := 3) hx hb dL_places_13 (by decide) ?_
  obtain ⟨q6, hcq6, hf⟩ := bd_of hf
  refine kdP_i (rest := [.int (a4 >>> (3 &&& 31))]) (r := q6) (σ' := σ1) ⟨rfl, rfl, rfl, rfl, rfl, rfl, rfl⟩ hA hW hS (fun ad g0 hR => by subst g0; exact ⟨_, va_runS (As := [.int (a4 >>> (5 &&& 31)), .int 3]) ⟨hx, hb, hml, hown, hts⟩ (mL_some l D dA ad σ1 _ (a4 >>> (5 &&& 31)) 3 q6 hcq6) (va_cwS 2 hts gL_128 rfl rfl rfl (by decide +kernel) ⟨Nat.le_of_ble_eq_true rfl, Nat.le_of_ble_eq_true rfl⟩) (preS_of hR hK _) rfl rfl hl.1 rfl (lv_room (Nat.le_of_ble_eq_true rfl)) dL_places_14 ⟨nle0 hm, nle0 hn⟩⟩) (fun H locs hW hS => ?_)
  refine lv_if_ne (tgt := 24) hx hb dL_places_17 (by decide) (fun c11 => ?_) (fun c11 => ?_)
  · have hf := if_of_pos hf c11
    refine lv_iconst (v := 1) hx hb dL_places_24 (by decide) ?_
    exact wL_places_J25 hC hK hA hX hst _ _ _ _ _ _ _ σ1 σ2 a3 a4 q1 1 (a4 >>> (3 &&& 31)) hm hn hW hS (lv_sub hl [1, 2, 3, 4, 0] rfl) hf
  · have hf := if_of_neg hf (fun q => q c11)
    refine lv_iconst (v := 3) hx hb dL_places_20 (by decide) ?_
    refine lv_goto (tgt := 25) hx hb dL_places_21 (by decide) ?_
    exact wL_places_J25 hC hK hA hX hst _ _ _ _ _ _ _ σ1 σ2 a3 a4 q1 3 (a4 >>> (3 &&& 31)) hm hn hW hS (lv_sub hl [1, 2, 3, 4, 0] rfl) hf
def fL_evening (σ1 σ2 : St) : Option ((Int32 × St × St) × Nat × Nat) := yb (fX5_equity σ1 2) (fun q1 => yb (fX5_free q1.2 3) (fun q6 => bt2 (fL_equities q6.2) (fun q11 => bd (fX5_evening q11.2) (fun q16 => gd (sameN q16.2 q11.2) (bd (fX5_evening σ2) (fun q22 => gd (sameN q22.2 σ2) (if ¬ q16.1 = q22.1 then some ((0, q16.2, q22.2), 0, 0) else yb (fX5_equity q16.2 2) (fun q29 => if ¬ q29.1 = q1.1 then some ((0, q29.2, q22.2), 0, 0) else yb (fX5_cash q29.2 2) (fun q35 => if ¬ q35.1 = q1.1 then some ((0, q35.2, q22.2), 0, 0) else yb (fX5_free q35.2 3) (fun q41 => if ¬ q41.1 = q6.1 then some ((0, q41.2, q22.2), 0, 0) else bt2 (fL_equities q41.2) (fun q47 => if ¬ q47.1 = q11.1 then some ((0, q47.2, q22.2), 0, 0) else some ((1, q47.2, q22.2), 0, 0))))))))))))
set_option maxHeartbeats 4000000 in
set_option maxRecDepth 100000 in
theorem mL_evening (l : Launch) (hst : l.stackTraces = false) (D : va_G) (dA : Nat → ClassId) (x mi h1 h2 : Nat) (σ1 σ2 : St) (A0 : Nat → Prop) (sz : Nat) (r : Int32) (σ1' σ2' : St) (mc ms : Nat) (hf : fL_evening σ1 σ2 = some ((r, σ1', σ2'), mc, ms)) : Met l yL_evening (WSy yL_evening cL_evening 7 (some .boolean)) ({ frames := 10, cells := mc, slots := ms, locals := 176 } : Room) (va_Pc [.ref h1, .ref h2] (Pre2 D dA x mi h1 h2 σ1 σ2 A0 sz)) (va_Qi (fun (z : Int32) (_ : Unit) => z = r) (fun _ t => W2 D dA x h1 h2 σ1' σ2' A0 t.heap) A0) mc ms A0 := by
  refine met_of (by decide) (Nat.le_of_ble_eq_true rfl) ?_
  intro p e s m below meth c ls hC hB hl
  obtain ⟨rfl, hA, hW, hK, hX⟩ := hB
  have hS : va_S A0 s.heap s.heap [] := va_S.rf
  have hC : CTX p s m _ meth c cL_evening 7 RL (some .boolean) := hC
  obtain ⟨hx, hb, hml, hown, hts, hr, hlk⟩ := id hC
  have hl : lv_has ls 7 [(0, .ref h1), (1, .ref h2)] := hl
  have hm : mc = 0 + mc := (Nat.zero_add mc).symm
  have hn : ms = 0 + ms := (Nat.zero_add ms).symm
  unfold fL_evening at hf
  refine lv_aload_n hx hb dL_evening_0 rfl (lv_at hl 0 rfl) ?_
  refine lv_iconst (v := 2) hx hb dL_evening_1 (by decide) ?_
  obtain ⟨q1, m2, n3, m4, n5, hcq1, hf, hem, hen⟩ := yb_of hf
  refine kdX_i (X := []) (rest := []) (q := q1) (by decide) hA hW hS (fun ad g0 hR hLX => by subst g0; exact ⟨_, vx_runV (As := [.int 2]) ⟨hx, hb, hml, hown, hts⟩ (mX5_equity l hst D dA ad σ1 _ x mi 2 (.inr q1) m2 n3 hcq1) (cwV 1 hts gL_80 rfl rfl rfl (by decide +kernel) ⟨Nat.le_of_ble_eq_true rfl, Nat.le_of_ble_eq_true rfl⟩) (preVA_of hA hR hS hK hX hLX _) rfl rfl hl.1 rfl (lv_room (Nat.le_of_ble_eq_true rfl)) dL_evening_2 ⟨nle hm hem, nle hn hen⟩⟩) (fun H locs hW hS => ?_)
  have hm := nadd hm hem
  have hn := nadd hn hen
  refine lv_istore_n (lv' := [(2, .int q1.1), (0, .ref h1), (1, .ref h2)]) hx hb dL_evening_5 rfl hl (by decide) rfl (fun ls hl => ?_)
  refine lv_aload_n hx hb dL_evening_6 rfl (lv_at hl 1 rfl) ?_
  refine lv_iconst (v := 3) hx hb dL_evening_7 (by decide) ?_
  obtain ⟨q6, m7, n8, m9, n10, hcq6, hf, hem, hen⟩ := yb_of hf
  refine kdX_i (X := []) (rest := []) (q := q6) (by decide) hA hW hS (fun ad g0 hR hLX => by subst g0; exact ⟨_, vx_runV (As := [.int 3]) ⟨hx, hb, hml, hown, hts⟩ (mX5_free l hst D dA ad q1.2 _ x mi 3 (.inr q6) m7 n8 hcq6) (cwV 1 hts gL_95 rfl rfl rfl (by decide +kernel) ⟨Nat.le_of_ble_eq_true rfl, Nat.le_of_ble_eq_true rfl⟩) (preVA_of hA hR hS hK hX hLX _) rfl rfl hl.1 rfl (lv_room (Nat.le_of_ble_eq_true rfl)) dL_evening_8 ⟨nle hm hem, nle hn hen⟩⟩) (fun H locs hW hS => ?_)
  have hm := nadd hm hem
  have hn := nadd hn hen
  refine lv_istore_n (lv' := [(3, .int q6.1), (2, .int q1.1), (0, .ref h1), (1, .ref h2)]) hx hb dL_evening_11 rfl hl (by decide) rfl (fun ls hl => ?_)
  refine lv_aload_n hx hb dL_evening_12 rfl (lv_at hl 2 rfl) ?_
  obtain ⟨q11, m12, n13, m14, n15, hcq11, hf, hem, hen⟩ := bt2_of hf
  refine kdA_l (X := [13, 15]) (rest := []) (r := q11.1) (σ' := q11.2) (by decide) hA hW hS (fun ad g0 hR hLX => by subst g0; exact ⟨_, va_runS (As := [.ref (ad 0 0)]) ⟨hx, hb, hml, hown, hts⟩ (mL_equities l hst D dA ad q6.2 _ x mi q11.1 q11.2 m12 n13 hcq11) (va_cwS 1 hts gL_139 rfl rfl rfl (by decide +kernel) ⟨Nat.le_of_ble_eq_true rfl, Nat.le_of_ble_eq_true rfl⟩) (preSA_of hA hR hS hK hX hLX _) rfl rfl hl.1 rfl (lv_room (Nat.le_of_ble_eq_true rfl)) dL_evening_13 ⟨nle hm hem, nle hn hen⟩⟩) (fun H locs hW hS => ?_)
  have hm := nadd hm hem
  have hn := nadd hn hen
  refine lv_lstore (lv' := [(4, .long q11.1), (3, .int q6.1), (2, .int q1.1), (0, .ref h1), (1, .ref h2)]) hx hb dL_evening_16 hl (by decide) rfl (fun ls hl => ?_)
  refine lv_aload_n hx hb dL_evening_18 rfl (lv_at hl 3 rfl) ?_
  obtain ⟨q16, hcq16, hf⟩ := bd_of hf
  obtain ⟨g21, hf⟩ := gd_of hf
  refine kdP_i (rest := []) (r := q16.1) (σ' := q16.2) g21 hA hW hS (fun ad g0 hR => by subst g0; exact ⟨_, va_runV (As := []) ⟨hx, hb, hml, hown, hts⟩ (mX5_evening l D dA ad q11.2 _ q16.1 q16.2 hcq16) (cwV 0 hts gL_143 rfl rfl rfl (by decide +kernel) ⟨Nat.le_of_ble_eq_true rfl, Nat.le_of_ble_eq_true rfl⟩) (preV_of hR hK (f := 0) (i := 0) rfl rfl rfl _) rfl rfl hl.1 rfl (lv_room (Nat.le_of_ble_eq_true rfl)) dL_evening_19 ⟨nle0 hm, nle0 hn⟩⟩) (fun H locs hW hS => ?_)
  refine lv_istore (lv' := [(6, .int q16.1), (4, .long q11.1), (3, .int q6.1), (2, .int q1.1), (0, .ref h1), (1, .ref h2)]) hx hb dL_evening_22 hl (by decide) rfl (fun ls hl => ?_)
  refine lv_iload hx hb dL_evening_24 (lv_at hl 0 rfl) ?_
  refine lv_aload_n hx hb dL_evening_26 rfl (lv_at hl 5 rfl) ?_
  obtain ⟨q22, hcq22, hf⟩ := bd_of hf
  obtain ⟨g27, hf⟩ := gd_of hf
  refine kdP_i (rest := [.int q16.1]) (r := q22.1) (σ' := q22.2) g27 hA (W2_swap hW) hS (fun ad g0 hR => by subst g0; exact ⟨_, va_runV (As := []) ⟨hx, hb, hml, hown, hts⟩ (mX5_evening l D dA ad σ2 _ q22.1 q22.2 hcq22) (cwV 0 hts gL_143 rfl rfl rfl (by decide +kernel) ⟨Nat.le_of_ble_eq_true rfl, Nat.le_of_ble_eq_true rfl⟩) (preV_of hR hK (f := 0) (i := 0) rfl rfl rfl _) rfl rfl hl.1 rfl (lv_room (Nat.le_of_ble_eq_true rfl)) dL_evening_27 ⟨nle0 hm, nle0 hn⟩⟩) (fun H locs hW hS => ?_)
  have hW := W2_swap hW
  refine lv_icmp_ne (tgt := 74) hx hb dL_evening_30 (by decide) (fun c28 => ?_) (fun c28 => ?_)
  · have hf := if_of_pos hf c28
    refine lv_iconst (v := 0) hx hb dL_evening_74 (by decide) ?_
    cases hf
    exact retd_z (by decide) hC hW hS (nfin hm) (nfin hn) dL_evening_75
  · have hf := if_of_neg hf (fun q => q c28)
    refine lv_aload_n hx hb dL_evening_33 rfl (lv_at hl 4 rfl) ?_
    refine lv_iconst (v := 2) hx hb dL_evening_34 (by decide) ?_
    obtain ⟨q29, m30, n31, m32, n33, hcq29, hf, hem, hen⟩ := yb_of hf
    refine kdX_i (X := []) (rest := []) (q := q29) (by decide) hA hW hS (fun ad g0 hR hLX => by subst g0; exact ⟨_, vx_runV (As := [.int 2]) ⟨hx, hb, hml, hown, hts⟩ (mX5_equity l hst D dA ad q16.2 _ x mi 2 (.inr q29) m30 n31 hcq29) (cwV 1 hts gL_80 rfl rfl rfl (by decide +kernel) ⟨Nat.le_of_ble_eq_true rfl, Nat.le_of_ble_eq_true rfl⟩) (preVA_of hA hR hS hK hX hLX _) rfl rfl hl.1 rfl (lv_room (Nat.le_of_ble_eq_true rfl)) dL_evening_35 ⟨nle hm hem, nle hn hen⟩⟩) (fun H locs hW hS => ?_)
    have hm := nadd hm hem
    have hn := nadd hn hen
    refine lv_iload_n hx hb dL_evening_38 rfl (lv_at hl 3 rfl) ?_
    refine lv_icmp_ne (tgt := 74) hx hb dL_evening_39 (by decide) (fun c34 => ?_) (fun c34 => ?_)
    · have hf := if_of_pos hf c34
      refine lv_iconst (v := 0) hx hb dL_evening_74 (by decide) ?_
      cases hf
      exact retd_z (by decide) hC hW hS (nfin hm) (nfin hn) dL_evening_75
    · have hf := if_of_neg hf (fun q => q c34)
      refine lv_aload_n hx hb dL_evening_42 rfl (lv_at hl 4 rfl) ?_
      refine lv_iconst (v := 2) hx hb dL_evening_43 (by decide) ?_
      obtain ⟨q35, m36, n37, m38, n39, hcq35, hf, hem, hen⟩ := yb_of hf
      refine kdX_i (X := []) (rest := []) (q := q35) (by decide) hA hW hS (fun ad g0 hR hLX => by subst g0; exact ⟨_, vx_runV (As := [.int 2]) ⟨hx, hb, hml, hown, hts⟩ (mX5_cash l hst D dA ad q29.2 _ x mi 2 (.inr q35) m36 n37 hcq35) (cwV 1 hts gL_77 rfl rfl rfl (by decide +kernel) ⟨Nat.le_of_ble_eq_true rfl, Nat.le_of_ble_eq_true rfl⟩) (preVA_of hA hR hS hK hX hLX _) rfl rfl hl.1 rfl (lv_room (Nat.le_of_ble_eq_true rfl)) dL_evening_44 ⟨nle hm hem, nle hn hen⟩⟩) (fun H locs hW hS => ?_)
      have hm := nadd hm hem
      have hn := nadd hn hen
      refine lv_iload_n hx hb dL_evening_47 rfl (lv_at hl 3 rfl) ?_
      refine lv_icmp_ne (tgt := 74) hx hb dL_evening_48 (by decide) (fun c40 => ?_) (fun c40 => ?_)
      · have hf := if_of_pos hf c40
        refine lv_iconst (v := 0) hx hb dL_evening_74 (by decide) ?_
        cases hf
        exact retd_z (by decide) hC hW hS (nfin hm) (nfin hn) dL_evening_75
      · have hf := if_of_neg hf (fun q => q c40)
        refine lv_aload_n hx hb dL_evening_51 rfl (lv_at hl 4 rfl) ?_
        refine lv_iconst (v := 3) hx hb dL_evening_52 (by decide) ?_
        obtain ⟨q41, m42, n43, m44, n45, hcq41, hf, hem, hen⟩ := yb_of hf
        refine kdX_i (X := []) (rest := []) (q := q41) (by decide) hA hW hS (fun ad g0 hR hLX => by subst g0; exact ⟨_, vx_runV (As := [.int 3]) ⟨hx, hb, hml, hown, hts⟩ (mX5_free l hst D dA ad q35.2 _ x mi 3 (.inr q41) m42 n43 hcq41) (cwV 1 hts gL_95 rfl rfl rfl (by decide +kernel) ⟨Nat.le_of_ble_eq_true rfl, Nat.le_of_ble_eq_true rfl⟩) (preVA_of hA hR hS hK hX hLX _) rfl rfl hl.1 rfl (lv_room (Nat.le_of_ble_eq_true rfl)) dL_evening_53 ⟨nle hm hem, nle hn hen⟩⟩) (fun H locs hW hS => ?_)
        have hm := nadd hm hem
        have hn := nadd hn hen
        refine lv_iload_n hx hb dL_evening_56 rfl (lv_at hl 2 rfl) ?_
        refine lv_icmp_ne (tgt := 74) hx hb dL_evening_57 (by decide) (fun c46 => ?_) (fun c46 => ?_)
        · have hf := if_of_pos hf c46
          refine lv_iconst (v := 0) hx hb dL_evening_74 (by decide) ?_
          cases hf
          exact retd_z (by decide) hC hW hS (nfin hm) (nfin hn) dL_evening_75
        · have hf := if_of_neg hf (fun q => q c46)
          refine lv_aload_n hx hb dL_evening_60 rfl (lv_at hl 4 rfl) ?_
          obtain ⟨q47, m48, n49, m50, n51, hcq47, hf, hem, hen⟩ := bt2_of hf
          refine kdA_l (X := [13, 15]) (rest := []) (r := q47.1) (σ' := q47.2) (by decide) hA hW hS (fun ad g0 hR hLX => by subst g0; exact ⟨_, va_runS (As := [.ref (ad 0 0)]) ⟨hx, hb, hml, hown, hts⟩ (mL_equities l hst D dA ad q41.2 _ x mi q47.1 q47.2 m48 n49 hcq47) (va_cwS 1 hts gL_139 rfl rfl rfl (by decide +kernel) ⟨Nat.le_of_ble_eq_true rfl, Nat.le_of_ble_eq_true rfl⟩) (preSA_of hA hR hS hK hX hLX _) rfl rfl hl.1 rfl (lv_room (Nat.le_of_ble_eq_true rfl)) dL_evening_61 ⟨nle hm hem, nle hn hen⟩⟩) (fun H locs hW hS => ?_)
          have hm := nadd hm hem
          have hn := nadd hn hen
          refine lv_lload hx hb dL_evening_64 (lv_at hl 1 rfl) ?_
          refine W.lcmp hx hb dL_evening_66 ?_
          refine lv_if_ne (tgt := 74) hx hb dL_evening_67 (by decide) (fun c520 => ?_) (fun c520 => ?_)
          · have c52 : ¬ q47.1 = q11.1 := fun q => c520 ((lg_cmp_eq _ _).mpr q)
            have hf := if_of_pos hf c52
            refine lv_iconst (v := 0) hx hb dL_evening_74 (by decide) ?_
            cases hf
            exact retd_z (by decide) hC hW hS (nfin hm) (nfin hn) dL_evening_75
          · have c52 : ¬ ¬ q47.1 = q11.1 := fun q => q ((lg_cmp_eq _ _).mp c520)
            have hf := if_of_neg hf c52
            refine lv_iconst (v := 1) hx hb dL_evening_70 (by decide) ?_
            refine lv_goto (tgt := 75) hx hb dL_evening_71 (by decide) ?_
            cases hf
            exact retd_z (by decide) hC hW hS (nfin hm) (nfin hn) dL_evening_75
def fL_hour_L93 : Nat → St → St → Int32 → Int64 → Int32 → Int64 → Int64 → Int32 → Int32 → Int32 → Int64 → Int32 → Option ((Int32 × St × St) × Nat × Nat)
  | 0, _, _, _, _, _, _, _, _, _, _, _, _ => none
  | n + 1, σ1, σ2, v2, v3, v5, v6, v8, v10, v11, v12, v13, v15 => if 5 ≤ v15 then bt2 (fX5_hour σ2) (fun q33 => if ¬ v12 = q33.1 then some ((0, σ1, q33.2), 0, 0) else bt2 (fL_standing σ1) (fun q41 => if ¬ v12 = (v2 - q41.1) then some ((0, q41.2, q33.2), 0, 0) else if v10 < v12 then some ((0, q41.2, q33.2), 0, 0) else bd (fX5_unpaid q41.2) (fun q52 => if q52 < v5 then some ((0, q41.2, q33.2), 0, 0) else bt2 (fL_shares q41.2) (fun q60 => if v3 < q60.1 then some ((0, q60.2, q33.2), 0, 0) else bt2 (fL_equities q60.2) (fun q69 => bt2 (fL_shares q69.2) (fun q74 => bd (fX5_unpaid q74.2) (fun q79 => if ¬ (q69.1 - v6) = (((((v8 - v13) + v3) - q74.1) + (Int32.toInt64 q79)) - (Int32.toInt64 v5)) then some ((0, q74.2, q33.2), 0, 0) else if 0 < v12 then if 0 < v10 then some ((1, q74.2, q33.2), 0, 0) else bd (fX5_trades q74.2) (fun q89 => if ¬ q89 = v11 then some ((0, q74.2, q33.2), 0, 0) else if ¬ v12 = 0 then some ((0, q74.2, q33.2), 0, 0) else some ((1, q74.2, q33.2), 0, 0)) else bt2 (fL_shares q74.2) (fun q96 => if ¬ q96.1 = v3 then some ((0, q96.2, q33.2), 0, 0) else bd (fX5_unpaid q96.2) (fun q102 => if ¬ q102 = v5 then some ((0, q96.2, q33.2), 0, 0) else if ¬ v13 = v8 then some ((0, q96.2, q33.2), 0, 0) else bt2 (fL_equities q96.2) (fun q109 => if ¬ q109.1 = v6 then some ((0, q109.2, q33.2), 0, 0) else if 0 < v10 then some ((1, q109.2, q33.2), 0, 0) else bd (fX5_trades q109.2) (fun q116 => if ¬ q116 = v11 then some ((0, q109.2, q33.2), 0, 0) else if ¬ v12 = 0 then some ((0, q109.2, q33.2), 0, 0) else some ((1, q109.2, q33.2), 0, 0)))))))))))) else yb (fX5_collateral σ1 v15) (fun q123 => kst (v13 + (Int32.toInt64 q123.1)) (fun x128 => kst (v15 + 1) (fun x129 => fL_hour_L93 n q123.2 σ2 v2 v3 v5 v6 v8 v10 v11 v12 x128 x129)))
set_option maxHeartbeats 4000000 in
set_option maxRecDepth 100000 in
theorem wL_hour_L93 {p : Program} {l : Launch} {e : Env} {s : State} {m : MethodId} {args : Array Value} {below : List Frame} {meth : Method} {c : Code} {D : va_G} {dA : Nat → ClassId} {A0 : Nat → Prop} {x mi mc ms h1 h2 : Nat} {r : Int32} {σ1' σ2' : St} (hC : CTX p s m args meth c cL_hour 16 RL (some .boolean)) (hK : KS D dA s) (hA : ∀ q, s.heap.size ≤ q → A0 q) (hX : EXT x mi A0 s s.heap) (hst : l.stackTraces = false) : ∀ (n : Nat) (H : Heap) (locs : List Loc) (ls : Array Slot) (c0 s0 mr sr : Nat) (σ1 σ2 : St) (v2 : Int32) (v3 : Int64) (v5 : Int32) (v6 : Int64) (v8 : Int64) (v10 : Int32) (v11 : Int32) (v12 : Int32) (v13 : Int64) (v15 : Int32), mc = c0 + mr → ms = s0 + sr → W2 D dA x h1 h2 σ1 σ2 A0 H → va_S A0 s.heap H locs → lv_has ls 16 [(0, .ref h1), (1, .ref h2), (2, .int v2), (3, .long v3), (5, .int v5), (6, .long v6), (8, .long v8), (10, .int v10), (11, .int v11), (12, .int v12), (13, .long v13), (15, .int v15)] → fL_hour_L93 n σ1 σ2 v2 v3 v5 v6 v8 v10 v11 v12 v13 v15 = some ((r, σ1', σ2'), mr, sr) → W p l e ({ frames := 12, cells := mc, slots := ms, locals := 295 } : Room) s m args below meth c H locs c0 s0 (MQ below (va_Qi (fun (z : Int32) (_ : Unit) => z = r) (fun _ t => W2 D dA x h1 h2 σ1' σ2' A0 t.heap) A0) args s mc ms A0) (F0 m 93 ls []) := by
  obtain ⟨hx, hb, hml, hown, hts, hr, hlk⟩ := id hC
  intro n
  induction n with
  | zero =>
    intro H locs ls c0 s0 mr sr σ1 σ2 v2 v3 v5 v6 v8 v10 v11 v12 v13 v15 hm hn hW hS hl hf
    rw [fL_hour_L93.eq_1] at hf
    cases hf
  | succ n ih =>
    intro H locs ls c0 s0 mr sr σ1 σ2 v2 v3 v5 v6 v8 v10 v11 v12 v13 v15 hm hn hW hS hl hf
    rw [fL_hour_L93.eq_2] at hf
    refine lv_iload hx hb dL_hour_93 (lv_at hl 11 rfl) ?_
    refine lv_iconst (v := 5) hx hb dL_hour_95 (by decide) ?_
    refine lv_icmp_ge (tgt := 117) hx hb dL_hour_96 (by decide) (fun c32 => ?_) (fun c32 => ?_)
    · have hf := if_of_pos hf c32
      refine lv_iload hx hb dL_hour_117 (lv_at hl 9 rfl) ?_
      refine lv_aload_n hx hb dL_hour_119 rfl (lv_at hl 1 rfl) ?_
      obtain ⟨q33, m34, n35, m36, n37, hcq33, hf, hem, hen⟩ := bt2_of hf
      refine kdA_i (X := [15, 19]) (rest := [.int v12]) (r := q33.1) (σ' := q33.2) (by decide) hA (W2_swap hW) hS (fun ad g0 hR hLX => by subst g0; exact ⟨_, va_runV (As := []) ⟨hx, hb, hml, hown, hts⟩ (mX5_hour l D dA ad σ2 _ x mi q33.1 q33.2 m34 n35 hcq33) (cwV 0 hts gL_153 rfl rfl rfl (by decide +kernel) ⟨Nat.le_of_ble_eq_true rfl, Nat.le_of_ble_eq_true rfl⟩) (preVA_of hA hR hS hK hX hLX _) rfl rfl hl.1 rfl (lv_room (Nat.le_of_ble_eq_true rfl)) dL_hour_120 ⟨nle hm hem, nle hn hen⟩⟩) (fun H locs hW hS => ?_)
      have hW := W2_swap hW
      have hm := nadd hm hem
      have hn := nadd hn hen
      refine lv_icmp_ne (tgt := 166) hx hb dL_hour_123 (by decide) (fun c38 => ?_) (fun c38 => ?_)
      · have hf := if_of_pos hf c38
        refine lv_iconst (v := 0) hx hb dL_hour_166 (by decide) ?_
        refine lv_istore (lv' := [(15, .int 0), (0, .ref h1), (1, .ref h2), (2, .int v2), (3, .long v3), (5, .int v5), (6, .long v6), (8, .long v8), (10, .int v10), (11, .int v11), (12, .int v12), (13, .long v13)]) hx hb dL_hour_167 hl (by decide) rfl (fun ls hl => ?_)
        refine lv_iload hx hb dL_hour_169 (lv_at hl 0 rfl) ?_
        refine lv_if_eq (tgt := 211) hx hb dL_hour_171 (by decide) (fun c39 => ?_) (fun c39 => absurd (by decide) c39)
        refine lv_iconst (v := 0) hx hb dL_hour_211 (by decide) ?_
        refine lv_istore (lv' := [(15, .int 0), (0, .ref h1), (1, .ref h2), (2, .int v2), (3, .long v3), (5, .int v5), (6, .long v6), (8, .long v8), (10, .int v10), (11, .int v11), (12, .int v12), (13, .long v13)]) hx hb dL_hour_212 hl (by decide) rfl (fun ls hl => ?_)
        refine lv_iload hx hb dL_hour_214 (lv_at hl 0 rfl) ?_
        refine lv_if_eq (tgt := 283) hx hb dL_hour_216 (by decide) (fun c40 => ?_) (fun c40 => absurd (by decide) c40)
        refine lv_iconst (v := 0) hx hb dL_hour_283 (by decide) ?_
        cases hf
        exact retd_z (by decide) hC hW hS (nfin hm) (nfin hn) dL_hour_284
      · have hf := if_of_neg hf (fun q => q c38)
        refine lv_iload hx hb dL_hour_126 (lv_at hl 9 rfl) ?_
        refine lv_iload_n hx hb dL_hour_128 rfl (lv_at hl 2 rfl) ?_
        refine lv_aload_n hx hb dL_hour_129 rfl (lv_at hl 0 rfl) ?_
        obtain ⟨q41, m42, n43, m44, n45, hcq41, hf, hem, hen⟩ := bt2_of hf
        refine kdA_i (X := [13, 15]) (rest := [.int v2, .int v12]) (r := q41.1) (σ' := q41.2) (by decide) hA hW hS (fun ad g0 hR hLX => by subst g0; exact ⟨_, va_runS (As := [.ref (ad 0 0)]) ⟨hx, hb, hml, hown, hts⟩ (mL_standing l hst D dA ad σ1 _ x mi q41.1 q41.2 m42 n43 hcq41) (va_cwS 1 hts gL_146 rfl rfl rfl (by decide +kernel) ⟨Nat.le_of_ble_eq_true rfl, Nat.le_of_ble_eq_true rfl⟩) (preSA_of hA hR hS hK hX hLX _) rfl rfl hl.1 rfl (lv_room (Nat.le_of_ble_eq_true rfl)) dL_hour_130 ⟨nle hm hem, nle hn hen⟩⟩) (fun H locs hW hS => ?_)
        have hm := nadd hm hem
        have hn := nadd hn hen
        refine lv_isub hx hb dL_hour_133 ?_
        refine lv_icmp_ne (tgt := 166) hx hb dL_hour_134 (by decide) (fun c46 => ?_) (fun c46 => ?_)
        · have hf := if_of_pos hf c46
          refine lv_iconst (v := 0) hx hb dL_hour_166 (by decide) ?_
          refine lv_istore (lv' := [(15, .int 0), (0, .ref h1), (1, .ref h2), (2, .int v2), (3, .long v3), (5, .int v5), (6, .long v6), (8, .long v8), (10, .int v10), (11, .int v11), (12, .int v12), (13, .long v13)]) hx hb dL_hour_167 hl (by decide) rfl (fun ls hl => ?_)
          refine lv_iload hx hb dL_hour_169 (lv_at hl 0 rfl) ?_
          refine lv_if_eq (tgt := 211) hx hb dL_hour_171 (by decide) (fun c47 => ?_) (fun c47 => absurd (by decide) c47)
          refine lv_iconst (v := 0) hx hb dL_hour_211 (by decide) ?_
          refine lv_istore (lv' := [(15, .int 0), (0, .ref h1), (1, .ref h2), (2, .int v2), (3, .long v3), (5, .int v5), (6, .long v6), (8, .long v8), (10, .int v10), (11, .int v11), (12, .int v12), (13, .long v13)]) hx hb dL_hour_212 hl (by decide) rfl (fun ls hl => ?_)
          refine lv_iload hx hb dL_hour_214 (lv_at hl 0 rfl) ?_
          refine lv_if_eq (tgt := 283) hx hb dL_hour_216 (by decide) (fun c48 => ?_) (fun c48 => absurd (by decide) c48)
          refine lv_iconst (v := 0) hx hb dL_hour_283 (by decide) ?_
          cases hf
          exact retd_z (by decide) hC hW hS (nfin hm) (nfin hn) dL_hour_284
        · have hf := if_of_neg hf (fun q => q c46)
          refine lv_iload hx hb dL_hour_137 (lv_at hl 9 rfl) ?_
          refine lv_iload hx hb dL_hour_139 (lv_at hl 7 rfl) ?_
          refine lv_icmp_gt (tgt := 166) hx hb dL_hour_141 (by decide) (fun c49 => ?_) (fun c49 => ?_)
          · have hf := if_of_pos hf c49
            refine lv_iconst (v := 0) hx hb dL_hour_166 (by decide) ?_
            refine lv_istore (lv' := [(15, .int 0), (0, .ref h1), (1, .ref h2), (2, .int v2), (3, .long v3), (5, .int v5), (6, .long v6), (8, .long v8), (10, .int v10), (11, .int v11), (12, .int v12), (13, .long v13)]) hx hb dL_hour_167 hl (by decide) rfl (fun ls hl => ?_)
            refine lv_iload hx hb dL_hour_169 (lv_at hl 0 rfl) ?_
            refine lv_if_eq (tgt := 211) hx hb dL_hour_171 (by decide) (fun c50 => ?_) (fun c50 => absurd (by decide) c50)
            refine lv_iconst (v := 0) hx hb dL_hour_211 (by decide) ?_
            refine lv_istore (lv' := [(15, .int 0), (0, .ref h1), (1, .ref h2), (2, .int v2), (3, .long v3), (5, .int v5), (6, .long v6), (8, .long v8), (10, .int v10), (11, .int v11), (12, .int v12), (13, .long v13)]) hx hb dL_hour_212 hl (by decide) rfl (fun ls hl => ?_)
            refine lv_iload hx hb dL_hour_214 (lv_at hl 0 rfl) ?_
            refine lv_if_eq (tgt := 283) hx hb dL_hour_216 (by decide) (fun c51 => ?_) (fun c51 => absurd (by decide) c51)
            refine lv_iconst (v := 0) hx hb dL_hour_283 (by decide) ?_
            cases hf
            exact retd_z (by decide) hC hW hS (nfin hm) (nfin hn) dL_hour_284
          · have hf := if_of_neg hf c49
            refine lv_aload_n hx hb dL_hour_144 rfl (lv_at hl 0 rfl) ?_
            obtain ⟨q52, hcq52, hf⟩ := bd_of hf
            refine kdP_i (rest := []) (r := q52) (σ' := q41.2) ⟨rfl, rfl, rfl, rfl, rfl, rfl, rfl⟩ hA hW hS (fun ad g0 hR => by subst g0; exact ⟨_, va_runV (As := []) ⟨hx, hb, hml, hown, hts⟩ (mX5_unpaid l D dA ad q41.2 _ q52 hcq52) (cwV 0 hts gL_107 rfl rfl rfl (by decide +kernel) ⟨Nat.le_of_ble_eq_true rfl, Nat.le_of_ble_eq_true rfl⟩) (preV_of hR hK (f := 0) (i := 0) rfl rfl rfl _) rfl rfl hl.1 rfl (lv_room (Nat.le_of_ble_eq_true rfl)) dL_hour_145 ⟨nle0 hm, nle0 hn⟩⟩) (fun H locs hW hS => ?_)
            refine lv_iload hx hb dL_hour_148 (lv_at hl 4 rfl) ?_
            refine lv_icmp_lt (tgt := 166) hx hb dL_hour_150 (by decide) (fun c57 => ?_) (fun c57 => ?_)
            · have hf := if_of_pos hf c57
              refine lv_iconst (v := 0) hx hb dL_hour_166 (by decide) ?_
              refine lv_istore (lv' := [(15, .int 0), (0, .ref h1), (1, .ref h2), (2, .int v2), (3, .long v3), (5, .int v5), (6, .long v6), (8, .long v8), (10, .int v10), (11, .int v11), (12, .int v12), (13, .long v13)]) hx hb dL_hour_167 hl (by decide) rfl (fun ls hl => ?_)
              refine lv_iload hx hb dL_hour_169 (lv_at hl 0 rfl) ?_
              refine lv_if_eq (tgt := 211) hx hb dL_hour_171 (by decide) (fun c58 => ?_) (fun c58 => absurd (by decide) c58)
              refine lv_iconst (v := 0) hx hb dL_hour_211 (by decide) ?_
              refine lv_istore (lv' := [(15, .int 0), (0, .ref h1), (1, .ref h2), (2, .int v2), (3, .long v3), (5, .int v5), (6, .long v6), (8, .long v8), (10, .int v10), (11, .int v11), (12, .int v12), (13, .long v13)]) hx hb dL_hour_212 hl (by decide) rfl (fun ls hl => ?_)
              refine lv_iload hx hb dL_hour_214 (lv_at hl 0 rfl) ?_
              refine lv_if_eq (tgt := 283) hx hb dL_hour_216 (by decide) (fun c59 => ?_) (fun c59 => absurd (by decide) c59)
              refine lv_iconst (v := 0) hx hb dL_hour_283 (by decide) ?_
              cases hf
              exact retd_z (by decide) hC hW hS (nfin hm) (nfin hn) dL_hour_284
            · have hf := if_of_neg hf c57
              refine lv_aload_n hx hb dL_hour_153 rfl (lv_at hl 0 rfl) ?_
              obtain ⟨q60, m61, n62, m63, n64, hcq60, hf, hem, hen⟩ := bt2_of hf
              refine kdA_l (X := [13, 15]) (rest := []) (r := q60.1) (σ' := q60.2) (by decide) hA hW hS (fun ad g0 hR hLX => by subst g0; exact ⟨_, va_runS (As := [.ref (ad 0 0)]) ⟨hx, hb, hml, hown, hts⟩ (mL_shares l hst D dA ad q41.2 _ x mi q60.1 q60.2 m61 n62 hcq60) (va_cwS 1 hts gL_150 rfl rfl rfl (by decide +kernel) ⟨Nat.le_of_ble_eq_true rfl, Nat.le_of_ble_eq_true rfl⟩) (preSA_of hA hR hS hK hX hLX _) rfl rfl hl.1 rfl (lv_room (Nat.le_of_ble_eq_true rfl)) dL_hour_154 ⟨nle hm hem, nle hn hen⟩⟩) (fun H locs hW hS => ?_)
              have hm := nadd hm hem
              have hn := nadd hn hen
              refine lv_lload_n hx hb dL_hour_157 rfl (lv_at hl 3 rfl) ?_
              refine W.lcmp hx hb dL_hour_158 ?_
              refine lv_if_gt (tgt := 166) hx hb dL_hour_159 (by decide) (fun c650 => ?_) (fun c650 => ?_)
              · have c65 : v3 < q60.1 := (lg_cmp_gt _ _).mp c650
                have hf := if_of_pos hf c65
                refine lv_iconst (v := 0) hx hb dL_hour_166 (by decide) ?_
                refine lv_istore (lv' := [(15, .int 0), (0, .ref h1), (1, .ref h2), (2, .int v2), (3, .long v3), (5, .int v5), (6, .long v6), (8, .long v8), (10, .int v10), (11, .int v11), (12, .int v12), (13, .long v13)]) hx hb dL_hour_167 hl (by decide) rfl (fun ls hl => ?_)
                refine lv_iload hx hb dL_hour_169 (lv_at hl 0 rfl) ?_
                refine lv_if_eq (tgt := 211) hx hb dL_hour_171 (by decide) (fun c66 => ?_) (fun c66 => absurd (by decide) c66)
                refine lv_iconst (v := 0) hx hb dL_hour_211 (by decide) ?_
                refine lv_istore (lv' := [(15, .int 0), (0, .ref h1), (1, .ref h2), (2, .int v2), (3, .long v3), (5, .int v5), (6, .long v6), (8, .long v8), (10, .int v10), (11, .int v11), (12, .int v12), (13, .long v13)]) hx hb dL_hour_212 hl (by decide) rfl (fun ls hl => ?_)
                refine lv_iload hx hb dL_hour_214 (lv_at hl 0 rfl) ?_
                refine lv_if_eq (tgt := 283) hx hb dL_hour_216 (by decide) (fun c67 => ?_) (fun c67 => absurd (by decide) c67)
                refine lv_iconst (v := 0) hx hb dL_hour_283 (by decide) ?_
                cases hf
                exact retd_z (by decide) hC hW hS (nfin hm) (nfin hn) dL_hour_284
              · have c65 : ¬ (v3 < q60.1) := fun q => c650 ((lg_cmp_gt _ _).mpr q)
                have hf := if_of_neg hf c65
                refine lv_iconst (v := 1) hx hb dL_hour_162 (by decide) ?_
                refine lv_goto (tgt := 167) hx hb dL_hour_163 (by decide) ?_
                refine lv_istore (lv' := [(15, .int 1), (0, .ref h1), (1, .ref h2), (2, .int v2), (3, .long v3), (5, .int v5), (6, .long v6), (8, .long v8), (10, .int v10), (11, .int v11), (12, .int v12), (13, .long v13)]) hx hb dL_hour_167 hl (by decide) rfl (fun ls hl => ?_)
                refine lv_iload hx hb dL_hour_169 (lv_at hl 0 rfl) ?_
                refine lv_if_eq (tgt := 211) hx hb dL_hour_171 (by decide) (fun c68 => absurd c68 (by decide)) (fun c68 => ?_)
                refine lv_aload_n hx hb dL_hour_174 rfl (lv_at hl 1 rfl) ?_
                obtain ⟨q69, m70, n71, m72, n73, hcq69, hf, hem, hen⟩ := bt2_of hf
                refine kdA_l (X := [13, 15]) (rest := []) (r := q69.1) (σ' := q69.2) (by decide) hA hW hS (fun ad g0 hR hLX => by subst g0; exact ⟨_, va_runS (As := [.ref (ad 0 0)]) ⟨hx, hb, hml, hown, hts⟩ (mL_equities l hst D dA ad q60.2 _ x mi q69.1 q69.2 m70 n71 hcq69) (va_cwS 1 hts gL_139 rfl rfl rfl (by decide +kernel) ⟨Nat.le_of_ble_eq_true rfl, Nat.le_of_ble_eq_true rfl⟩) (preSA_of hA hR hS hK hX hLX _) rfl rfl hl.1 rfl (lv_room (Nat.le_of_ble_eq_true rfl)) dL_hour_175 ⟨nle hm hem, nle hn hen⟩⟩) (fun H locs hW hS => ?_)
                have hm := nadd hm hem
                have hn := nadd hn hen
                refine lv_lload hx hb dL_hour_178 (lv_at hl 6 rfl) ?_
                refine lv_lsub hx hb dL_hour_180 ?_
                refine lv_lload hx hb dL_hour_181 (lv_at hl 7 rfl) ?_
                refine lv_lload hx hb dL_hour_183 (lv_at hl 11 rfl) ?_
                refine lv_lsub hx hb dL_hour_185 ?_
                refine lv_lload_n hx hb dL_hour_186 rfl (lv_at hl 4 rfl) ?_
                refine lv_ladd hx hb dL_hour_187 ?_
                refine lv_aload_n hx hb dL_hour_188 rfl (lv_at hl 1 rfl) ?_
                obtain ⟨q74, m75, n76, m77, n78, hcq74, hf, hem, hen⟩ := bt2_of hf
                refine kdA_l (X := [13, 15]) (rest := [.long ((v8 - v13) + v3), .long (q69.1 - v6)]) (r := q74.1) (σ' := q74.2) (by decide) hA hW hS (fun ad g0 hR hLX => by subst g0; exact ⟨_, va_runS (As := [.ref (ad 0 0)]) ⟨hx, hb, hml, hown, hts⟩ (mL_shares l hst D dA ad q69.2 _ x mi q74.1 q74.2 m75 n76 hcq74) (va_cwS 1 hts gL_150 rfl rfl rfl (by decide +kernel) ⟨Nat.le_of_ble_eq_true rfl, Nat.le_of_ble_eq_true rfl⟩) (preSA_of hA hR hS hK hX hLX _) rfl rfl hl.1 rfl (lv_room (Nat.le_of_ble_eq_true rfl)) dL_hour_189 ⟨nle hm hem, nle hn hen⟩⟩) (fun H locs hW hS => ?_)
                have hm := nadd hm hem
                have hn := nadd hn hen
                refine lv_lsub hx hb dL_hour_192 ?_
                refine lv_aload_n hx hb dL_hour_193 rfl (lv_at hl 1 rfl) ?_
                obtain ⟨q79, hcq79, hf⟩ := bd_of hf
                refine kdP_i (rest := [.long (((v8 - v13) + v3) - q74.1), .long (q69.1 - v6)]) (r := q79) (σ' := q74.2) ⟨rfl, rfl, rfl, rfl, rfl, rfl, rfl⟩ hA hW hS (fun ad g0 hR => by subst g0; exact ⟨_, va_runV (As := []) ⟨hx, hb, hml, hown, hts⟩ (mX5_unpaid l D dA ad q74.2 _ q79 hcq79) (cwV 0 hts gL_107 rfl rfl rfl (by decide +kernel) ⟨Nat.le_of_ble_eq_true rfl, Nat.le_of_ble_eq_true rfl⟩) (preV_of hR hK (f := 0) (i := 0) rfl rfl rfl _) rfl rfl hl.1 rfl (lv_room (Nat.le_of_ble_eq_true rfl)) dL_hour_194 ⟨nle0 hm, nle0 hn⟩⟩) (fun H locs hW hS => ?_)
                refine lv_i2l hx hb dL_hour_197 rfl ?_
                refine lv_ladd hx hb dL_hour_198 ?_
                refine lv_iload hx hb dL_hour_199 (lv_at hl 5 rfl) ?_
                refine lv_i2l hx hb dL_hour_201 rfl ?_
                refine lv_lsub hx hb dL_hour_202 ?_
                refine W.lcmp hx hb dL_hour_203 ?_
                refine lv_if_ne (tgt := 211) hx hb dL_hour_204 (by decide) (fun c840 => ?_) (fun c840 => ?_)
                · have c84 : ¬ (q69.1 - v6) = (((((v8 - v13) + v3) - q74.1) + (Int32.toInt64 q79)) - (Int32.toInt64 v5)) := fun q => c840 ((lg_cmp_eq _ _).mpr q)
                  have hf := if_of_pos hf c84
                  refine lv_iconst (v := 0) hx hb dL_hour_211 (by decide) ?_
                  refine lv_istore (lv' := [(15, .int 0), (0, .ref h1), (1, .ref h2), (2, .int v2), (3, .long v3), (5, .int v5), (6, .long v6), (8, .long v8), (10, .int v10), (11, .int v11), (12, .int v12), (13, .long v13)]) hx hb dL_hour_212 hl (by decide) rfl (fun ls hl => ?_)
                  refine lv_iload hx hb dL_hour_214 (lv_at hl 0 rfl) ?_
                  refine lv_if_eq (tgt := 283) hx hb dL_hour_216 (by decide) (fun c85 => ?_) (fun c85 => absurd (by decide) c85)
                  refine lv_iconst (v := 0) hx hb dL_hour_283 (by decide) ?_
                  cases hf
                  exact retd_z (by decide) hC hW hS (nfin hm) (nfin hn) dL_hour_284
                · have c84 : ¬ ¬ (q69.1 - v6) = (((((v8 - v13) + v3) - q74.1) + (Int32.toInt64 q79)) - (Int32.toInt64 v5)) := fun q => q ((lg_cmp_eq _ _).mp c840)
                  have hf := if_of_neg hf c84
                  refine lv_iconst (v := 1) hx hb dL_hour_207 (by decide) ?_
                  refine lv_goto (tgt := 212) hx hb dL_hour_208 (by decide) ?_
                  refine lv_istore (lv' := [(15, .int 1), (0, .ref h1), (1, .ref h2), (2, .int v2), (3, .long v3), (5, .int v5), (6, .long v6), (8, .long v8), (10, .int v10), (11, .int v11), (12, .int v12), (13, .long v13)]) hx hb dL_hour_212 hl (by decide) rfl (fun ls hl => ?_)
                  refine lv_iload hx hb dL_hour_214 (lv_at hl 0 rfl) ?_
                  refine lv_if_eq (tgt := 283) hx hb dL_hour_216 (by decide) (fun c86 => absurd c86 (by decide)) (fun c86 => ?_)
                  refine lv_iload hx hb dL_hour_219 (lv_at hl 10 rfl) ?_
                  refine lv_if_gt (tgt := 260) hx hb dL_hour_221 (by decide) (fun c87 => ?_) (fun c87 => ?_)
                  · have hf := if_of_pos hf c87
                    refine lv_iload hx hb dL_hour_260 (lv_at hl 8 rfl) ?_
                    refine lv_if_gt (tgt := 279) hx hb dL_hour_262 (by decide) (fun c88 => ?_) (fun c88 => ?_)
                    · have hf := if_of_pos hf c88
                      refine lv_iconst (v := 1) hx hb dL_hour_279 (by decide) ?_
                      refine lv_goto (tgt := 284) hx hb dL_hour_280 (by decide) ?_
                      cases hf
                      exact retd_z (by decide) hC hW hS (nfin hm) (nfin hn) dL_hour_284
                    · have hf := if_of_neg hf c88
                      refine lv_aload_n hx hb dL_hour_265 rfl (lv_at hl 1 rfl) ?_
                      obtain ⟨q89, hcq89, hf⟩ := bd_of hf
                      refine kdP_i (rest := []) (r := q89) (σ' := q74.2) ⟨rfl, rfl, rfl, rfl, rfl, rfl, rfl⟩ hA hW hS (fun ad g0 hR => by subst g0; exact ⟨_, va_runV (As := []) ⟨hx, hb, hml, hown, hts⟩ (mX5_trades l D dA ad q74.2 _ q89 hcq89) (cwV 0 hts gL_101 rfl rfl rfl (by decide +kernel) ⟨Nat.le_of_ble_eq_true rfl, Nat.le_of_ble_eq_true rfl⟩) (preV_of hR hK (f := 0) (i := 0) rfl rfl rfl _) rfl rfl hl.1 rfl (lv_room (Nat.le_of_ble_eq_true rfl)) dL_hour_266 ⟨nle0 hm, nle0 hn⟩⟩) (fun H locs hW hS => ?_)
                      refine lv_iload hx hb dL_hour_269 (lv_at hl 9 rfl) ?_
                      refine lv_icmp_ne (tgt := 283) hx hb dL_hour_271 (by decide) (fun c94 => ?_) (fun c94 => ?_)
                      · have hf := if_of_pos hf c94
                        refine lv_iconst (v := 0) hx hb dL_hour_283 (by decide) ?_
                        cases hf
                        exact retd_z (by decide) hC hW hS (nfin hm) (nfin hn) dL_hour_284
                      · have hf := if_of_neg hf (fun q => q c94)
                        refine lv_iload hx hb dL_hour_274 (lv_at hl 10 rfl) ?_
                        refine lv_if_ne (tgt := 283) hx hb dL_hour_276 (by decide) (fun c95 => ?_) (fun c95 => ?_)
                        · have hf := if_of_pos hf c95
                          refine lv_iconst (v := 0) hx hb dL_hour_283 (by decide) ?_
                          cases hf
                          exact retd_z (by decide) hC hW hS (nfin hm) (nfin hn) dL_hour_284
                        · have hf := if_of_neg hf (fun q => q c95)
                          refine lv_iconst (v := 1) hx hb dL_hour_279 (by decide) ?_
                          refine lv_goto (tgt := 284) hx hb dL_hour_280 (by decide) ?_
                          cases hf
                          exact retd_z (by decide) hC hW hS (nfin hm) (nfin hn) dL_hour_284
                  · have hf := if_of_neg hf c87
                    refine lv_aload_n hx hb dL_hour_224 rfl (lv_at hl 1 rfl) ?_
                    obtain ⟨q96, m97, n98, m99, n100, hcq96, hf, hem, hen⟩ := bt2_of hf
                    refine kdA_l (X := [13, 15]) (rest := []) (r := q96.1) (σ' := q96.2) (by decide) hA hW hS (fun ad g0 hR hLX => by subst g0; exact ⟨_, va_runS (As := [.ref (ad 0 0)]) ⟨hx, hb, hml, hown, hts⟩ (mL_shares l hst D dA ad q74.2 _ x mi q96.1 q96.2 m97 n98 hcq96) (va_cwS 1 hts gL_150 rfl rfl rfl (by decide +kernel) ⟨Nat.le_of_ble_eq_true rfl, Nat.le_of_ble_eq_true rfl⟩) (preSA_of hA hR hS hK hX hLX _) rfl rfl hl.1 rfl (lv_room (Nat.le_of_ble_eq_true rfl)) dL_hour_225 ⟨nle hm hem, nle hn hen⟩⟩) (fun H locs hW hS => ?_)
                    have hm := nadd hm hem
                    have hn := nadd hn hen
                    refine lv_lload_n hx hb dL_hour_228 rfl (lv_at hl 4 rfl) ?_
                    refine W.lcmp hx hb dL_hour_229 ?_
                    refine lv_if_ne (tgt := 283) hx hb dL_hour_230 (by decide) (fun c1010 => ?_) (fun c1010 => ?_)
                    · have c101 : ¬ q96.1 = v3 := fun q => c1010 ((lg_cmp_eq _ _).mpr q)
                      have hf := if_of_pos hf c101
                      refine lv_iconst (v := 0) hx hb dL_hour_283 (by decide) ?_
                      cases hf
                      exact retd_z (by decide) hC hW hS (nfin hm) (nfin hn) dL_hour_284
                    · have c101 : ¬ ¬ q96.1 = v3 := fun q => q ((lg_cmp_eq _ _).mp c1010)
                      have hf := if_of_neg hf c101
                      refine lv_aload_n hx hb dL_hour_233 rfl (lv_at hl 1 rfl) ?_
                      obtain ⟨q102, hcq102, hf⟩ := bd_of hf
                      refine kdP_i (rest := []) (r := q102) (σ' := q96.2) ⟨rfl, rfl, rfl, rfl, rfl, rfl, rfl⟩ hA hW hS (fun ad g0 hR => by subst g0; exact ⟨_, va_runV (As := []) ⟨hx, hb, hml, hown, hts⟩ (mX5_unpaid l D dA ad q96.2 _ q102 hcq102) (cwV 0 hts gL_107 rfl rfl rfl (by decide +kernel) ⟨Nat.le_of_ble_eq_true rfl, Nat.le_of_ble_eq_true rfl⟩) (preV_of hR hK (f := 0) (i := 0) rfl rfl rfl _) rfl rfl hl.1 rfl (lv_room (Nat.le_of_ble_eq_true rfl)) dL_hour_234 ⟨nle0 hm, nle0 hn⟩⟩) (fun H locs hW hS => ?_)
                      refine lv_iload hx hb dL_hour_237 (lv_at hl 5 rfl) ?_
                      refine lv_icmp_ne (tgt := 283) hx hb dL_hour_239 (by decide) (fun c107 => ?_) (fun c107 => ?_)
                      · have hf := if_of_pos hf c107
                        refine lv_iconst (v := 0) hx hb dL_hour_283 (by decide) ?_
                        cases hf
                        exact retd_z (by decide) hC hW hS (nfin hm) (nfin hn) dL_hour_284
                      · have hf := if_of_neg hf (fun q => q c107)
                        refine lv_lload hx hb dL_hour_242 (lv_at hl 11 rfl) ?_
                        refine lv_lload hx hb dL_hour_244 (lv_at hl 7 rfl) ?_
                        refine W.lcmp hx hb dL_hour_246 ?_
                        refine lv_if_ne (tgt := 283) hx hb dL_hour_247 (by decide) (fun c1080 => ?_) (fun c1080 => ?_)
                        · have c108 : ¬ v13 = v8 := fun q => c1080 ((lg_cmp_eq _ _).mpr q)
                          have hf := if_of_pos hf c108
                          refine lv_iconst (v := 0) hx hb dL_hour_283 (by decide) ?_
                          cases hf
                          exact retd_z (by decide) hC hW hS (nfin hm) (nfin hn) dL_hour_284
                        · have c108 : ¬ ¬ v13 = v8 := fun q => q ((lg_cmp_eq _ _).mp c1080)
                          have hf := if_of_neg hf c108
                          refine lv_aload_n hx hb dL_hour_250 rfl (lv_at hl 1 rfl) ?_
                          obtain ⟨q109, m110, n111, m112, n113, hcq109, hf, hem, hen⟩ := bt2_of hf
                          refine kdA_l (X := [13, 15]) (rest := []) (r := q109.1) (σ' := q109.2) (by decide) hA hW hS (fun ad g0 hR hLX => by subst g0; exact ⟨_, va_runS (As := [.ref (ad 0 0)]) ⟨hx, hb, hml, hown, hts⟩ (mL_equities l hst D dA ad q96.2 _ x mi q109.1 q109.2 m110 n111 hcq109) (va_cwS 1 hts gL_139 rfl rfl rfl (by decide +kernel) ⟨Nat.le_of_ble_eq_true rfl, Nat.le_of_ble_eq_true rfl⟩) (preSA_of hA hR hS hK hX hLX _) rfl rfl hl.1 rfl (lv_room (Nat.le_of_ble_eq_true rfl)) dL_hour_251 ⟨nle hm hem, nle hn hen⟩⟩) (fun H locs hW hS => ?_)
                          have hm := nadd hm hem
                          have hn := nadd hn hen
                          refine lv_lload hx hb dL_hour_254 (lv_at hl 6 rfl) ?_
                          refine W.lcmp hx hb dL_hour_256 ?_
                          refine lv_if_ne (tgt := 283) hx hb dL_hour_257 (by decide) (fun c1140 => ?_) (fun c1140 => ?_)
                          · have c114 : ¬ q109.1 = v6 := fun q => c1140 ((lg_cmp_eq _ _).mpr q)
                            have hf := if_of_pos hf c114
                            refine lv_iconst (v := 0) hx hb dL_hour_283 (by decide) ?_
                            cases hf
                            exact retd_z (by decide) hC hW hS (nfin hm) (nfin hn) dL_hour_284
                          · have c114 : ¬ ¬ q109.1 = v6 := fun q => q ((lg_cmp_eq _ _).mp c1140)
                            have hf := if_of_neg hf c114
                            refine lv_iload hx hb dL_hour_260 (lv_at hl 8 rfl) ?_
                            refine lv_if_gt (tgt := 279) hx hb dL_hour_262 (by decide) (fun c115 => ?_) (fun c115 => ?_)
                            · have hf := if_of_pos hf c115
                              refine lv_iconst (v := 1) hx hb dL_hour_279 (by decide) ?_
                              refine lv_goto (tgt := 284) hx hb dL_hour_280 (by decide) ?_
                              cases hf
                              exact retd_z (by decide) hC hW hS (nfin hm) (nfin hn) dL_hour_284
                            · have hf := if_of_neg hf c115
                              refine lv_aload_n hx hb dL_hour_265 rfl (lv_at hl 1 rfl) ?_
                              obtain ⟨q116, hcq116, hf⟩ := bd_of hf
                              refine kdP_i (rest := []) (r := q116) (σ' := q109.2) ⟨rfl, rfl, rfl, rfl, rfl, rfl, rfl⟩ hA hW hS (fun ad g0 hR => by subst g0; exact ⟨_, va_runV (As := []) ⟨hx, hb, hml, hown, hts⟩ (mX5_trades l D dA ad q109.2 _ q116 hcq116) (cwV 0 hts gL_101 rfl rfl rfl (by decide +kernel) ⟨Nat.le_of_ble_eq_true rfl, Nat.le_of_ble_eq_true rfl⟩) (preV_of hR hK (f := 0) (i := 0) rfl rfl rfl _) rfl rfl hl.1 rfl (lv_room (Nat.le_of_ble_eq_true rfl)) dL_hour_266 ⟨nle0 hm, nle0 hn⟩⟩) (fun H locs hW hS => ?_)
                              refine lv_iload hx hb dL_hour_269 (lv_at hl 9 rfl) ?_
                              refine lv_icmp_ne (tgt := 283) hx hb dL_hour_271 (by decide) (fun c121 => ?_) (fun c121 => ?_)
                              · have hf := if_of_pos hf c121
                                refine lv_iconst (v := 0) hx hb dL_hour_283 (by decide) ?_
                                cases hf
                                exact retd_z (by decide) hC hW hS (nfin hm) (nfin hn) dL_hour_284
                              · have hf := if_of_neg hf (fun q => q c121)
                                refine lv_iload hx hb dL_hour_274 (lv_at hl 10 rfl) ?_
                                refine lv_if_ne (tgt := 283) hx hb dL_hour_276 (by decide) (fun c122 => ?_) (fun c122 => ?_)
                                · have hf := if_of_pos hf c122
                                  refine lv_iconst (v := 0) hx hb dL_hour_283 (by decide) ?_
                                  cases hf
                                  exact retd_z (by decide) hC hW hS (nfin hm) (nfin hn) dL_hour_284
                                · have hf := if_of_neg hf (fun q => q c122)
                                  refine lv_iconst (v := 1) hx hb dL_hour_279 (by decide) ?_
                                  refine lv_goto (tgt := 284) hx hb dL_hour_280 (by decide) ?_
                                  cases hf
                                  exact retd_z (by decide) hC hW hS (nfin hm) (nfin hn) dL_hour_284
    · have hf := if_of_neg hf c32
      refine lv_lload hx hb dL_hour_99 (lv_at hl 10 rfl) ?_
      refine lv_aload_n hx hb dL_hour_101 rfl (lv_at hl 0 rfl) ?_
      refine lv_iload hx hb dL_hour_102 (lv_at hl 11 rfl) ?_
      obtain ⟨q123, m124, n125, m126, n127, hcq123, hf, hem, hen⟩ := yb_of hf
      refine kdX_i (X := []) (rest := [.long v13]) (q := q123) (by decide) hA hW hS (fun ad g0 hR hLX => by subst g0; exact ⟨_, vx_runV (As := [.int v15]) ⟨hx, hb, hml, hown, hts⟩ (mX5_collateral l hst D dA ad σ1 _ x mi v15 (.inr q123) m124 n125 hcq123) (cwV 1 hts gL_92 rfl rfl rfl (by decide +kernel) ⟨Nat.le_of_ble_eq_true rfl, Nat.le_of_ble_eq_true rfl⟩) (preVA_of hA hR hS hK hX hLX _) rfl rfl hl.1 rfl (lv_room (Nat.le_of_ble_eq_true rfl)) dL_hour_104 ⟨nle hm hem, nle hn hen⟩⟩) (fun H locs hW hS => ?_)
      have hm := nadd hm hem
      have hn := nadd hn hen
      refine lv_i2l hx hb dL_hour_107 rfl ?_
      refine lv_ladd hx hb dL_hour_108 ?_
      refine lv_topl (fun x128 hx128 => ?_)
      have hf := kst_eq hx128 hf
      refine lv_lstore (lv' := [(13, .long x128), (0, .ref h1), (1, .ref h2), (2, .int v2), (3, .long v3), (5, .int v5), (6, .long v6), (8, .long v8), (10, .int v10), (11, .int v11), (12, .int v12), (15, .int v15)]) hx hb dL_hour_109 hl (by decide) rfl (fun ls hl => ?_)
      obtain ⟨x129, hx129⟩ : ∃ y : Int32, y = v15 + 1 := ⟨_, rfl⟩
      have hf := kst_eq hx129 hf
      refine lv_iinc (v := x129) (lv' := [(15, .int x129), (13, .long x128), (0, .ref h1), (1, .ref h2), (2, .int v2), (3, .long v3), (5, .int v5), (6, .long v6), (8, .long v8), (10, .int v10), (11, .int v11), (12, .int v12)]) hx hb dL_hour_111 hl (k := 11) rfl (by rw [hx129]; rfl) (by decide) rfl (fun ls hl => ?_)
      refine lv_goto (tgt := 93) hx hb dL_hour_114 (by decide) ?_
      exact ih _ _ _ _ _ _ _ q123.2 σ2 v2 v3 v5 v6 v8 v10 v11 v12 x128 x129 hm hn hW hS (lv_sub hl [2, 3, 4, 5, 6, 7, 8, 9, 10, 11, 1, 0] rfl) hf
def fL_hour_L31 : Nat → St → St → Int32 → Int64 → Int32 → Int64 → Int64 → Int32 → Int32 → Option ((Int32 × St × St) × Nat × Nat)
  | 0, _, _, _, _, _, _, _, _, _ => none
  | n + 1, σ1, σ2, v2, v3, v5, v6, v8, v10, v11 => if 5 ≤ v11 then bd (fX5_trades σ1) (fun q22 => bt2 (fX5_hour σ1) (fun q27 => fL_hour_L93 1000 q27.2 σ2 v2 v3 v5 v6 v8 v10 q22 q27.1 0 0)) else yb (fX5_collateral σ1 v11) (fun q130 => kst (v8 + (Int32.toInt64 q130.1)) (fun x135 => yb (fX5_called q130.2 v11) (fun q136 => if ¬ q136.1 = 1 then kst (v10 + 0) (fun x142 => kst (v11 + 1) (fun x143 => fL_hour_L31 n q136.2 σ2 v2 v3 v5 v6 x135 x142 x143)) else kst (v10 + 1) (fun x144 => kst (v11 + 1) (fun x145 => fL_hour_L31 n q136.2 σ2 v2 v3 v5 v6 x135 x144 x145)))))
set_option maxHeartbeats 4000000 in
set_option maxRecDepth 100000 in
theorem wL_hour_L31 {p : Program} {l : Launch} {e : Env} {s : State} {m : MethodId} {args : Array Value} {below : List Frame} {meth : Method} {c : Code} {D : va_G} {dA : Nat → ClassId} {A0 : Nat → Prop} {x mi mc ms h1 h2 : Nat} {r : Int32} {σ1' σ2' : St} (hC : CTX p s m args meth c cL_hour 16 RL (some .boolean)) (hK : KS D dA s) (hA : ∀ q, s.heap.size ≤ q → A0 q) (hX : EXT x mi A0 s s.heap) (hst : l.stackTraces = false) : ∀ (n : Nat) (H : Heap) (locs : List Loc) (ls : Array Slot) (c0 s0 mr sr : Nat) (σ1 σ2 : St) (v2 : Int32) (v3 : Int64) (v5 : Int32) (v6 : Int64) (v8 : Int64) (v10 : Int32) (v11 : Int32), mc = c0 + mr → ms = s0 + sr → W2 D dA x h1 h2 σ1 σ2 A0 H → va_S A0 s.heap H locs → lv_has ls 16 [(0, .ref h1), (1, .ref h2), (2, .int v2), (3, .long v3), (5, .int v5), (6, .long v6), (8, .long v8), (10, .int v10), (11, .int v11)] → fL_hour_L31 n σ1 σ2 v2 v3 v5 v6 v8 v10 v11 = some ((r, σ1', σ2'), mr, sr) → W p l e ({ frames := 12, cells := mc, slots := ms, locals := 295 } : Room) s m args below meth c H locs c0 s0 (MQ below (va_Qi (fun (z : Int32) (_ : Unit) => z = r) (fun _ t => W2 D dA x h1 h2 σ1' σ2' A0 t.heap) A0) args s mc ms A0) (F0 m 31 ls []) := by
  obtain ⟨hx, hb, hml, hown, hts, hr, hlk⟩ := id hC
  intro n
  induction n with
  | zero =>
    intro H locs ls c0 s0 mr sr σ1 σ2 v2 v3 v5 v6 v8 v10 v11 hm hn hW hS hl hf
    rw [fL_hour_L31.eq_1] at hf
    cases hf
  | succ n ih =>
    intro H locs ls c0 s0 mr sr σ1 σ2 v2 v3 v5 v6 v8 v10 v11 hm hn hW hS hl hf
    rw [fL_hour_L31.eq_2] at hf
    refine lv_iload hx hb dL_hour_31 (lv_at hl 8 rfl) ?_
    refine lv_iconst (v := 5) hx hb dL_hour_33 (by decide) ?_
    refine lv_icmp_ge (tgt := 75) hx hb dL_hour_34 (by decide) (fun c21 => ?_) (fun c21 => ?_)
    · have hf := if_of_pos hf c21
      refine lv_aload_n hx hb dL_hour_75 rfl (lv_at hl 0 rfl) ?_
      obtain ⟨q22, hcq22, hf⟩ := bd_of hf
      refine kdP_i (rest := []) (r := q22) (σ' := σ1) ⟨rfl, rfl, rfl, rfl, rfl, rfl, rfl⟩ hA hW hS (fun ad g0 hR => by subst g0; exact ⟨_, va_runV (As := []) ⟨hx, hb, hml, hown, hts⟩ (mX5_trades l D dA ad σ1 _ q22 hcq22) (cwV 0 hts gL_101 rfl rfl rfl (by decide +kernel) ⟨Nat.le_of_ble_eq_true rfl, Nat.le_of_ble_eq_true rfl⟩) (preV_of hR hK (f := 0) (i := 0) rfl rfl rfl _) rfl rfl hl.1 rfl (lv_room (Nat.le_of_ble_eq_true rfl)) dL_hour_76 ⟨nle0 hm, nle0 hn⟩⟩) (fun H locs hW hS => ?_)
      refine lv_istore (lv' := [(11, .int q22), (0, .ref h1), (1, .ref h2), (2, .int v2), (3, .long v3), (5, .int v5), (6, .long v6), (8, .long v8), (10, .int v10)]) hx hb dL_hour_79 hl (by decide) rfl (fun ls hl => ?_)
      refine lv_aload_n hx hb dL_hour_81 rfl (lv_at hl 1 rfl) ?_
      obtain ⟨q27, m28, n29, m30, n31, hcq27, hf, hem, hen⟩ := bt2_of hf
      refine kdA_i (X := [15, 19]) (rest := []) (r := q27.1) (σ' := q27.2) (by decide) hA hW hS (fun ad g0 hR hLX => by subst g0; exact ⟨_, va_runV (As := []) ⟨hx, hb, hml, hown, hts⟩ (mX5_hour l D dA ad σ1 _ x mi q27.1 q27.2 m28 n29 hcq27) (cwV 0 hts gL_153 rfl rfl rfl (by decide +kernel) ⟨Nat.le_of_ble_eq_true rfl, Nat.le_of_ble_eq_true rfl⟩) (preVA_of hA hR hS hK hX hLX _) rfl rfl hl.1 rfl (lv_room (Nat.le_of_ble_eq_true rfl)) dL_hour_82 ⟨nle hm hem, nle hn hen⟩⟩) (fun H locs hW hS => ?_)
      have hm := nadd hm hem
      have hn := nadd hn hen
      refine lv_istore (lv' := [(12, .int q27.1), (11, .int q22), (0, .ref h1), (1, .ref h2), (2, .int v2), (3, .long v3), (5, .int v5), (6, .long v6), (8, .long v8), (10, .int v10)]) hx hb dL_hour_85 hl (by decide) rfl (fun ls hl => ?_)
      refine lv_lconst (v := 0) hx hb dL_hour_87 (by decide) ?_
      refine lv_lstore (lv' := [(13, .long 0), (12, .int q27.1), (11, .int q22), (0, .ref h1), (1, .ref h2), (2, .int v2), (3, .long v3), (5, .int v5), (6, .long v6), (8, .long v8), (10, .int v10)]) hx hb dL_hour_88 hl (by decide) rfl (fun ls hl => ?_)
      refine lv_iconst (v := 0) hx hb dL_hour_90 (by decide) ?_
      refine lv_istore (lv' := [(15, .int 0), (13, .long 0), (12, .int q27.1), (11, .int q22), (0, .ref h1), (1, .ref h2), (2, .int v2), (3, .long v3), (5, .int v5), (6, .long v6), (8, .long v8), (10, .int v10)]) hx hb dL_hour_91 hl (by decide) rfl (fun ls hl => ?_)
      exact wL_hour_L93 hC hK hA hX hst 1000 _ _ _ _ _ _ _ q27.2 σ2 v2 v3 v5 v6 v8 v10 q22 q27.1 0 0 hm hn hW hS (lv_sub hl [4, 5, 6, 7, 8, 9, 10, 11, 3, 2, 1, 0] rfl) hf
    · have hf := if_of_neg hf c21
      refine lv_lload hx hb dL_hour_37 (lv_at hl 6 rfl) ?_
      refine lv_aload_n hx hb dL_hour_39 rfl (lv_at hl 0 rfl) ?_
      refine lv_iload hx hb dL_hour_40 (lv_at hl 8 rfl) ?_
      obtain ⟨q130, m131, n132, m133, n134, hcq130, hf, hem, hen⟩ := yb_of hf
      refine kdX_i (X := []) (rest := [.long v8]) (q := q130) (by decide) hA hW hS (fun ad g0 hR hLX => by subst g0; exact ⟨_, vx_runV (As := [.int v11]) ⟨hx, hb, hml, hown, hts⟩ (mX5_collateral l hst D dA ad σ1 _ x mi v11 (.inr q130) m131 n132 hcq130) (cwV 1 hts gL_92 rfl rfl rfl (by decide +kernel) ⟨Nat.le_of_ble_eq_true rfl, Nat.le_of_ble_eq_true rfl⟩) (preVA_of hA hR hS hK hX hLX _) rfl rfl hl.1 rfl (lv_room (Nat.le_of_ble_eq_true rfl)) dL_hour_42 ⟨nle hm hem, nle hn hen⟩⟩) (fun H locs hW hS => ?_)
      have hm := nadd hm hem
      have hn := nadd hn hen
      refine lv_i2l hx hb dL_hour_45 rfl ?_
      refine lv_ladd hx hb dL_hour_46 ?_
      refine lv_topl (fun x135 hx135 => ?_)
      have hf := kst_eq hx135 hf
      refine lv_lstore (lv' := [(8, .long x135), (0, .ref h1), (1, .ref h2), (2, .int v2), (3, .long v3), (5, .int v5), (6, .long v6), (10, .int v10), (11, .int v11)]) hx hb dL_hour_47 hl (by decide) rfl (fun ls hl => ?_)
      refine lv_iload hx hb dL_hour_49 (lv_at hl 7 rfl) ?_
      refine lv_aload_n hx hb dL_hour_51 rfl (lv_at hl 1 rfl) ?_
      refine lv_iload hx hb dL_hour_52 (lv_at hl 8 rfl) ?_
      obtain ⟨q136, m137, n138, m139, n140, hcq136, hf, hem, hen⟩ := yb_of hf
      refine kdX_i (X := []) (rest := [.int v10]) (q := q136) (by decide) hA hW hS (fun ad g0 hR hLX => by subst g0; exact ⟨_, vx_runV (As := [.int v11]) ⟨hx, hb, hml, hown, hts⟩ (mX5_called l hst D dA ad q130.2 _ x mi v11 (.inr q136) m137 n138 hcq136) (cwV 1 hts gL_67 rfl rfl rfl (by decide +kernel) ⟨Nat.le_of_ble_eq_true rfl, Nat.le_of_ble_eq_true rfl⟩) (preVA_of hA hR hS hK hX hLX _) rfl rfl hl.1 rfl (lv_room (Nat.le_of_ble_eq_true rfl)) dL_hour_54 ⟨nle hm hem, nle hn hen⟩⟩) (fun H locs hW hS => ?_)
      have hm := nadd hm hem
      have hn := nadd hn hen
      refine lv_iconst (v := 1) hx hb dL_hour_57 (by decide) ?_
      refine lv_icmp_ne (tgt := 65) hx hb dL_hour_58 (by decide) (fun c141 => ?_) (fun c141 => ?_)
      · have hf := if_of_pos hf c141
        refine lv_iconst (v := 0) hx hb dL_hour_65 (by decide) ?_
        refine lv_iadd hx hb dL_hour_66 ?_
        refine lv_topi (fun x142 hx142 => ?_)
        have hf := kst_eq hx142 hf
        refine lv_istore (lv' := [(10, .int x142), (8, .long x135), (0, .ref h1), (1, .ref h2), (2, .int v2), (3, .long v3), (5, .int v5), (6, .long v6), (11, .int v11)]) hx hb dL_hour_67 hl (by decide) rfl (fun ls hl => ?_)
        obtain ⟨x143, hx143⟩ : ∃ y : Int32, y = v11 + 1 := ⟨_, rfl⟩
        have hf := kst_eq hx143 hf
        refine lv_iinc (v := x143) (lv' := [(11, .int x143), (10, .int x142), (8, .long x135), (0, .ref h1), (1, .ref h2), (2, .int v2), (3, .long v3), (5, .int v5), (6, .long v6)]) hx hb dL_hour_69 hl (k := 8) rfl (by rw [hx143]; rfl) (by decide) rfl (fun ls hl => ?_)
        refine lv_goto (tgt := 31) hx hb dL_hour_72 (by decide) ?_
        exact ih _ _ _ _ _ _ _ q136.2 σ2 v2 v3 v5 v6 x135 x142 x143 hm hn hW hS (lv_sub hl [3, 4, 5, 6, 7, 8, 2, 1, 0] rfl) hf
      · have hf := if_of_neg hf (fun q => q c141)
        refine lv_iconst (v := 1) hx hb dL_hour_61 (by decide) ?_
        refine lv_goto (tgt := 66) hx hb dL_hour_62 (by decide) ?_
        refine lv_iadd hx hb dL_hour_66 ?_
        refine lv_topi (fun x144 hx144 => ?_)
        have hf := kst_eq hx144 hf
        refine lv_istore (lv' := [(10, .int x144), (8, .long x135), (0, .ref h1), (1, .ref h2), (2, .int v2), (3, .long v3), (5, .int v5), (6, .long v6), (11, .int v11)]) hx hb dL_hour_67 hl (by decide) rfl (fun ls hl => ?_)
        obtain ⟨x145, hx145⟩ : ∃ y : Int32, y = v11 + 1 := ⟨_, rfl⟩
        have hf := kst_eq hx145 hf
        refine lv_iinc (v := x145) (lv' := [(11, .int x145), (10, .int x144), (8, .long x135), (0, .ref h1), (1, .ref h2), (2, .int v2), (3, .long v3), (5, .int v5), (6, .long v6)]) hx hb dL_hour_69 hl (k := 8) rfl (by rw [hx145]; rfl) (by decide) rfl (fun ls hl => ?_)
        refine lv_goto (tgt := 31) hx hb dL_hour_72 (by decide) ?_
        exact ih _ _ _ _ _ _ _ q136.2 σ2 v2 v3 v5 v6 x135 x144 x145 hm hn hW hS (lv_sub hl [3, 4, 5, 6, 7, 8, 2, 1, 0] rfl) hf
def fL_hour (σ1 σ2 : St) : Option ((Int32 × St × St) × Nat × Nat) := bt2 (fL_standing σ1) (fun q1 => bt2 (fL_shares q1.2) (fun q6 => bd (fX5_unpaid q6.2) (fun q11 => bt2 (fL_equities q6.2) (fun q16 => fL_hour_L31 1000 q16.2 σ2 q1.1 q6.1 q11 q16.1 0 0 0))))
set_option maxHeartbeats 4000000 in
set_option maxRecDepth 100000 in
theorem mL_hour (l : Launch) (hst : l.stackTraces = false) (D : va_G) (dA : Nat → ClassId) (x mi h1 h2 : Nat) (σ1 σ2 : St) (A0 : Nat → Prop) (sz : Nat) (r : Int32) (σ1' σ2' : St) (mc ms : Nat) (hf : fL_hour σ1 σ2 = some ((r, σ1', σ2'), mc, ms)) : Met l yL_hour (WSy yL_hour cL_hour 16 (some .boolean)) ({ frames := 12, cells := mc, slots := ms, locals := 295 } : Room) (va_Pc [.ref h1, .ref h2] (Pre2 D dA x mi h1 h2 σ1 σ2 A0 sz)) (va_Qi (fun (z : Int32) (_ : Unit) => z = r) (fun _ t => W2 D dA x h1 h2 σ1' σ2' A0 t.heap) A0) mc ms A0 := by
  refine met_of (by decide) (Nat.le_of_ble_eq_true rfl) ?_
  intro p e s m below meth c ls hC hB hl
  obtain ⟨rfl, hA, hW, hK, hX⟩ := hB
  have hS : va_S A0 s.heap s.heap [] := va_S.rf
  have hC : CTX p s m _ meth c cL_hour 16 RL (some .boolean) := hC
  obtain ⟨hx, hb, hml, hown, hts, hr, hlk⟩ := id hC
  have hl : lv_has ls 16 [(0, .ref h1), (1, .ref h2)] := hl
  have hm : mc = 0 + mc := (Nat.zero_add mc).symm
  have hn : ms = 0 + ms := (Nat.zero_add ms).symm
  unfold fL_hour at hf
  refine lv_aload_n hx hb dL_hour_0 rfl (lv_at hl 0 rfl) ?_
  obtain ⟨q1, m2, n3, m4, n5, hcq1, hf, hem, hen⟩ := bt2_of hf
  refine kdA_i (X := [13, 15]) (rest := []) (r := q1.1) (σ' := q1.2) (by decide) hA hW hS (fun ad g0 hR hLX => by subst g0; exact ⟨_, va_runS (As := [.ref (ad 0 0)]) ⟨hx, hb, hml, hown, hts⟩ (mL_standing l hst D dA ad σ1 _ x mi q1.1 q1.2 m2 n3 hcq1) (va_cwS 1 hts gL_146 rfl rfl rfl (by decide +kernel) ⟨Nat.le_of_ble_eq_true rfl, Nat.le_of_ble_eq_true rfl⟩) (preSA_of hA hR hS hK hX hLX _) rfl rfl hl.1 rfl (lv_room (Nat.le_of_ble_eq_true rfl)) dL_hour_1 ⟨nle hm hem, nle hn hen⟩⟩) (fun H locs hW hS => ?_)
  have hm := nadd hm hem
  have hn := nadd hn hen
  refine lv_istore_n (lv' := [(2, .int q1.1), (0, .ref h1), (1, .ref h2)]) hx hb dL_hour_4 rfl hl (by decide) rfl (fun ls hl => ?_)
  refine lv_aload_n hx hb dL_hour_5 rfl (lv_at hl 1 rfl) ?_
  obtain ⟨q6, m7, n8, m9, n10, hcq6, hf, hem, hen⟩ := bt2_of hf
  refine kdA_l (X := [13, 15]) (rest := []) (r := q6.1) (σ' := q6.2) (by decide) hA hW hS (fun ad g0 hR hLX => by subst g0; exact ⟨_, va_runS (As := [.ref (ad 0 0)]) ⟨hx, hb, hml, hown, hts⟩ (mL_shares l hst D dA ad q1.2 _ x mi q6.1 q6.2 m7 n8 hcq6) (va_cwS 1 hts gL_150 rfl rfl rfl (by decide +kernel) ⟨Nat.le_of_ble_eq_true rfl, Nat.le_of_ble_eq_true rfl⟩) (preSA_of hA hR hS hK hX hLX _) rfl rfl hl.1 rfl (lv_room (Nat.le_of_ble_eq_true rfl)) dL_hour_6 ⟨nle hm hem, nle hn hen⟩⟩) (fun H locs hW hS => ?_)
  have hm := nadd hm hem
  have hn := nadd hn hen
  refine lv_lstore_n (lv' := [(3, .long q6.1), (2, .int q1.1), (0, .ref h1), (1, .ref h2)]) hx hb dL_hour_9 rfl hl (by decide) rfl (fun ls hl => ?_)
  refine lv_aload_n hx hb dL_hour_10 rfl (lv_at hl 2 rfl) ?_
  obtain ⟨q11, hcq11, hf⟩ := bd_of hf
  refine kdP_i (rest := []) (r := q11) (σ' := q6.2) ⟨rfl, rfl, rfl, rfl, rfl, rfl, rfl⟩ hA hW hS (fun ad g0 hR => by subst g0; exact ⟨_, va_runV (As := []) ⟨hx, hb, hml, hown, hts⟩ (mX5_unpaid l D dA ad q6.2 _ q11 hcq11) (cwV 0 hts gL_107 rfl rfl rfl (by decide +kernel) ⟨Nat.le_of_ble_eq_true rfl, Nat.le_of_ble_eq_true rfl⟩) (preV_of hR hK (f := 0) (i := 0) rfl rfl rfl _) rfl rfl hl.1 rfl (lv_room (Nat.le_of_ble_eq_true rfl)) dL_hour_11 ⟨nle0 hm, nle0 hn⟩⟩) (fun H locs hW hS => ?_)
  refine lv_istore (lv' := [(5, .int q11), (3, .long q6.1), (2, .int q1.1), (0, .ref h1), (1, .ref h2)]) hx hb dL_hour_14 hl (by decide) rfl (fun ls hl => ?_)
  refine lv_aload_n hx hb dL_hour_16 rfl (lv_at hl 3 rfl) ?_
  obtain ⟨q16, m17, n18, m19, n20, hcq16, hf, hem, hen⟩ := bt2_of hf
  refine kdA_l (X := [13, 15]) (rest := []) (r := q16.1) (σ' := q16.2) (by decide) hA hW hS (fun ad g0 hR hLX => by subst g0; exact ⟨_, va_runS (As := [.ref (ad 0 0)]) ⟨hx, hb, hml, hown, hts⟩ (mL_equities l hst D dA ad q6.2 _ x mi q16.1 q16.2 m17 n18 hcq16) (va_cwS 1 hts gL_139 rfl rfl rfl (by decide +kernel) ⟨Nat.le_of_ble_eq_true rfl, Nat.le_of_ble_eq_true rfl⟩) (preSA_of hA hR hS hK hX hLX _) rfl rfl hl.1 rfl (lv_room (Nat.le_of_ble_eq_true rfl)) dL_hour_17 ⟨nle hm hem, nle hn hen⟩⟩) (fun H locs hW hS => ?_)
  have hm := nadd hm hem
  have hn := nadd hn hen
  refine lv_lstore (lv' := [(6, .long q16.1), (5, .int q11), (3, .long q6.1), (2, .int q1.1), (0, .ref h1), (1, .ref h2)]) hx hb dL_hour_20 hl (by decide) rfl (fun ls hl => ?_)
  refine lv_lconst (v := 0) hx hb dL_hour_22 (by decide) ?_
  refine lv_lstore (lv' := [(8, .long 0), (6, .long q16.1), (5, .int q11), (3, .long q6.1), (2, .int q1.1), (0, .ref h1), (1, .ref h2)]) hx hb dL_hour_23 hl (by decide) rfl (fun ls hl => ?_)
  refine lv_iconst (v := 0) hx hb dL_hour_25 (by decide) ?_
  refine lv_istore (lv' := [(10, .int 0), (8, .long 0), (6, .long q16.1), (5, .int q11), (3, .long q6.1), (2, .int q1.1), (0, .ref h1), (1, .ref h2)]) hx hb dL_hour_26 hl (by decide) rfl (fun ls hl => ?_)
  refine lv_iconst (v := 0) hx hb dL_hour_28 (by decide) ?_
  refine lv_istore (lv' := [(11, .int 0), (10, .int 0), (8, .long 0), (6, .long q16.1), (5, .int q11), (3, .long q6.1), (2, .int q1.1), (0, .ref h1), (1, .ref h2)]) hx hb dL_hour_29 hl (by decide) rfl (fun ls hl => ?_)
  exact wL_hour_L31 hC hK hA hX hst 1000 _ _ _ _ _ _ _ q16.2 σ2 q1.1 q6.1 q11 q16.1 0 0 0 hm hn hW hS (lv_sub hl [7, 8, 6, 5, 4, 3, 2, 1, 0] rfl) hf
