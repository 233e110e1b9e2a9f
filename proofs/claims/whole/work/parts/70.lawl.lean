/-! THE LAW, its loop (laid by wip/gen/lawl.py) -/
theorem LGP_next {D : va_G} {dA : Nat → ClassId} {s : State} {x a am o n : Nat} {H : Heap} {locs : List Loc} {cells slots : Nat} (h : LGP D dA s x a am o n H locs cells slots) : LGP D dA s x a am o (n + 1) H locs cells slots := by
  obtain ⟨ad, σ, v, adm, τ, hS, hI, h1, h2⟩ := h
  exact ⟨ad, σ, v, adm, τ, hS, INV_next hI, by omega, by omega⟩
theorem LGP_end {D : va_G} {dA : Nat → ClassId} {s : State} {x a am o n : Nat} {H : Heap} {locs : List Loc} {cells slots : Nat} (h : LGP D dA s x a am o n H locs cells slots) (hn : n ≤ 512) : va_S (newA s) s.heap H locs ∧ cells ≤ 601024 ∧ slots ≤ 7293034 := by
  obtain ⟨ad, σ, v, adm, τ, hS, hI, h1, h2⟩ := h
  have := pot_le hI hn
  exact ⟨hS.hS, by omega, by omega⟩
theorem law_sw {p : Program} {l : Launch} {e : Env} {s : State} {m : MethodId} {args : Array Value} {below : List Frame} {meth : Method} {c : Code} {H : Heap} {locs : List Loc} {cells slots : Nat} {Q : State → Prop} {ls : Array Slot} {D : va_G} {dA : Nat → ClassId} {x mi n b a am o L : Nat} {xs : Nat → Int32} (hst : l.stackTraces = false) (hC : CTX p s m args meth c code 7 RL ret) (hK : LK D dA s x mi) (hX : va_X b L xs s s.heap) (hbl : b < s.heap.size) (hL : L ≤ 3072) (hn : 6 * n + 6 ≤ L) (hP : LGP D dA s x a am o n H locs cells slots) (hl : lv_has ls 7 (lvL n b a am o)) (kk : ∀ (H1 : Heap) (locs1 : List Loc) (c1 s1 : Nat) (ls1 : Array Slot), LGP D dA s x a am o (n + 1) H1 locs1 c1 s1 → lv_has ls1 7 (lvL n b a am o) → W p l e room_1 s m args below meth c H1 locs1 c1 s1 Q (F0 m 1679 ls1 [])) (y : Int32) : W p l e room_1 s m args below meth c H locs cells slots Q (F0 m 40 ls [.int y]) := by
  obtain ⟨hx, hb, hml, hown, hts, hr, hlk⟩ := id hC
  by_cases h : y.toInt < 0 ∨ 25 < y.toInt
  · exact lv_tableOut (tgt := 1679) hx hb d_law_40 h (by decide) (kk _ _ _ _ _ (LGP_next hP) hl)
  obtain ⟨k, hk, hy⟩ : ∃ k : Nat, k < 26 ∧ y.toInt = (k : Int) := ⟨y.toInt.toNat, by omega, by omega⟩
  match k, hk, hy with
  | 0, _, hy => exact lv_tableIn (off := 120) (tgt := 160) hx hb d_law_40 (by omega) (by omega) (by rw [hy]; rfl) (by decide) (law_160 hst hC hK hX hbl hL hn hP hl kk)
  | 1, _, hy => exact lv_tableIn (off := 188) (tgt := 228) hx hb d_law_40 (by omega) (by omega) (by rw [hy]; rfl) (by decide) (law_228 hst hC hK hX hbl hL hn hP hl kk)
  | 2, _, hy => exact lv_tableIn (off := 268) (tgt := 308) hx hb d_law_40 (by omega) (by omega) (by rw [hy]; rfl) (by decide) (law_308 hst hC hK hX hbl hL hn hP hl kk)
  | 3, _, hy => exact lv_tableIn (off := 336) (tgt := 376) hx hb d_law_40 (by omega) (by omega) (by rw [hy]; rfl) (by decide) (law_376 hst hC hK hX hbl hL hn hP hl kk)
  | 4, _, hy => exact lv_tableIn (off := 404) (tgt := 444) hx hb d_law_40 (by omega) (by omega) (by rw [hy]; rfl) (by decide) (law_444 hst hC hK hX hbl hL hn hP hl kk)
  | 5, _, hy => exact lv_tableIn (off := 484) (tgt := 524) hx hb d_law_40 (by omega) (by omega) (by rw [hy]; rfl) (by decide) (law_524 hst hC hK hX hbl hL hn hP hl kk)
  | 6, _, hy => exact lv_tableIn (off := 552) (tgt := 592) hx hb d_law_40 (by omega) (by omega) (by rw [hy]; rfl) (by decide) (law_592 hst hC hK hX hbl hL hn hP hl kk)
  | 7, _, hy => exact lv_tableIn (off := 672) (tgt := 712) hx hb d_law_40 (by omega) (by omega) (by rw [hy]; rfl) (by decide) (law_712 hst hC hK hX hbl hL hn hP hl kk)
  | 8, _, hy => exact lv_tableIn (off := 728) (tgt := 768) hx hb d_law_40 (by omega) (by omega) (by rw [hy]; rfl) (by decide) (law_768 hst hC hK hX hbl hL hn hP hl kk)
  | 9, _, hy => exact lv_tableIn (off := 812) (tgt := 852) hx hb d_law_40 (by omega) (by omega) (by rw [hy]; rfl) (by decide) (law_852 hst hC hK hX hbl hL hn hP hl kk)
  | 10, _, hy => exact lv_tableIn (off := 868) (tgt := 908) hx hb d_law_40 (by omega) (by omega) (by rw [hy]; rfl) (by decide) (law_908 hst hC hK hX hbl hL hn hP hl kk)
  | 11, _, hy => exact lv_tableIn (off := 952) (tgt := 992) hx hb d_law_40 (by omega) (by omega) (by rw [hy]; rfl) (by decide) (law_992 hst hC hK hX hbl hL hn hP hl kk)
  | 12, _, hy => exact lv_tableIn (off := 965) (tgt := 1005) hx hb d_law_40 (by omega) (by omega) (by rw [hy]; rfl) (by decide) (law_1005 hst hC hK hX hbl hL hn hP hl kk)
  | 13, _, hy => exact lv_tableIn (off := 978) (tgt := 1018) hx hb d_law_40 (by omega) (by omega) (by rw [hy]; rfl) (by decide) (law_1018 hst hC hK hX hbl hL hn hP hl kk)
  | 14, _, hy => exact lv_tableIn (off := 991) (tgt := 1031) hx hb d_law_40 (by omega) (by omega) (by rw [hy]; rfl) (by decide) (law_1031 hst hC hK hX hbl hL hn hP hl kk)
  | 15, _, hy => exact lv_tableIn (off := 1047) (tgt := 1087) hx hb d_law_40 (by omega) (by omega) (by rw [hy]; rfl) (by decide) (law_1087 hst hC hK hX hbl hL hn hP hl kk)
  | 16, _, hy => exact lv_tableIn (off := 1110) (tgt := 1150) hx hb d_law_40 (by omega) (by omega) (by rw [hy]; rfl) (by decide) (law_1150 hst hC hK hX hbl hL hn hP hl kk)
  | 17, _, hy => exact lv_tableIn (off := 1178) (tgt := 1218) hx hb d_law_40 (by omega) (by omega) (by rw [hy]; rfl) (by decide) (law_1218 hst hC hK hX hbl hL hn hP hl kk)
  | 18, _, hy => exact lv_tableIn (off := 1234) (tgt := 1274) hx hb d_law_40 (by omega) (by omega) (by rw [hy]; rfl) (by decide) (law_1274 hst hC hK hX hbl hL hn hP hl kk)
  | 19, _, hy => exact lv_tableIn (off := 1290) (tgt := 1330) hx hb d_law_40 (by omega) (by omega) (by rw [hy]; rfl) (by decide) (law_1330 hst hC hK hX hbl hL hn hP hl kk)
  | 20, _, hy => exact lv_tableIn (off := 1346) (tgt := 1386) hx hb d_law_40 (by omega) (by omega) (by rw [hy]; rfl) (by decide) (law_1386 hst hC hK hX hbl hL hn hP hl kk)
  | 21, _, hy => exact lv_tableIn (off := 1402) (tgt := 1442) hx hb d_law_40 (by omega) (by omega) (by rw [hy]; rfl) (by decide) (law_1442 hst hC hK hX hbl hL hn hP hl kk)
  | 22, _, hy => exact lv_tableIn (off := 1458) (tgt := 1498) hx hb d_law_40 (by omega) (by omega) (by rw [hy]; rfl) (by decide) (law_1498 hst hC hK hX hbl hL hn hP hl kk)
  | 23, _, hy => exact lv_tableIn (off := 1514) (tgt := 1554) hx hb d_law_40 (by omega) (by omega) (by rw [hy]; rfl) (by decide) (law_1554 hst hC hK hX hbl hL hn hP hl kk)
  | 24, _, hy => exact lv_tableIn (off := 1570) (tgt := 1610) hx hb d_law_40 (by omega) (by omega) (by rw [hy]; rfl) (by decide) (law_1610 hst hC hK hX hbl hL hn hP hl kk)
  | 25, _, hy => exact lv_tableIn (off := 1626) (tgt := 1666) hx hb d_law_40 (by omega) (by omega) (by rw [hy]; rfl) (by decide) (law_1666 hst hC hK hX hbl hL hn hP hl kk)
  | k + 26, hk, _ => exact absurd hk (by omega)
theorem law_loop {p : Program} {l : Launch} {e : Env} {s : State} {m : MethodId} {args : Array Value} {below : List Frame} {meth : Method} {c : Code} {Q : State → Prop} {D : va_G} {dA : Nat → ClassId} {x mi b a am o L : Nat} {xs : Nat → Int32} (hst : l.stackTraces = false) (hC : CTX p s m args meth c code 7 RL ret) (hK : LK D dA s x mi) (hX : va_X b L xs s s.heap) (hbl : b < s.heap.size) (hL : L ≤ 3072) (kE : ∀ (H1 : Heap) (locs1 : List Loc) (c1 s1 : Nat) (ls1 : Array Slot), va_S (newA s) s.heap H1 locs1 → c1 ≤ 601024 → s1 ≤ 7293034 → W p l e room_1 s m args below meth c H1 locs1 c1 s1 Q (F0 m 1685 ls1 [])) : ∀ (k n : Nat) (H : Heap) (locs : List Loc) (cells slots : Nat) (ls : Array Slot), L < 6 * n + 6 * k + 6 → 6 * n ≤ L → LGP D dA s x a am o n H locs cells slots → lv_has ls 7 (lvL n b a am o) → W p l e room_1 s m args below meth c H locs cells slots Q (F0 m 23 ls []) := by
  obtain ⟨hx, hb, hml, hown, hts, hr, hlk⟩ := id hC
  have hbA : ¬ newA s b := fun z => absurd z (by show ¬ s.heap.size ≤ b; omega)
  have hlen : (Int32.ofNat L - 6).toInt = (L : Int) - 6 := by
    have e1 : (nI L).toInt = (L : Int) := nI_toInt (by omega)
    have e1 : (Int32.ofNat L).toInt = (L : Int) := e1
    rw [Int32.toInt_sub, e1]
    show Int.bmod ((L : Int) - 6) (2 ^ 32) = _
    rw [Int.bmod_def]
    omega
  have hi : ∀ n : Nat, 6 * n ≤ L → (nI (6 * n)).toInt = ((6 * n : Nat) : Int) := fun n h => nI_toInt (by omega)
  intro k
  induction k with
  | zero =>
    intro n H locs cells slots ls h1 h2 hP hl
    refine lv_iload hx hb d_law_23 (lv_at hl 0 rfl) ?_
    refine lv_aload_n hx hb d_law_25 rfl (lv_at hl 1 rfl) ?_
    refine va_slen hx hb hX hbl hbA (LGP_end hP (by omega)).1 d_law_26 ?_
    refine lv_bipush (v := 6) hx hb d_law_27 (by decide) ?_
    refine lv_isub hx hb d_law_29 ?_
    refine lv_icmp_gt (tgt := 1685) hx hb d_law_30 (by decide) (fun _ => ?_) (fun q => absurd ?_ q)
    · obtain ⟨e1, e2, e3⟩ := LGP_end hP (by omega)
      exact kE H locs cells slots ls e1 e2 e3
    · have := hi n h2
      rw [Int32.lt_iff_toInt_lt]
      omega
  | succ k ih =>
    intro n H locs cells slots ls h1 h2 hP hl
    refine lv_iload hx hb d_law_23 (lv_at hl 0 rfl) ?_
    refine lv_aload_n hx hb d_law_25 rfl (lv_at hl 1 rfl) ?_
    refine va_slen hx hb hX hbl hbA (LGP_end hP (by omega)).1 d_law_26 ?_
    refine lv_bipush (v := 6) hx hb d_law_27 (by decide) ?_
    refine lv_isub hx hb d_law_29 ?_
    refine lv_icmp_gt (tgt := 1685) hx hb d_law_30 (by decide) (fun _ => ?_) (fun q => ?_)
    · obtain ⟨e1, e2, e3⟩ := LGP_end hP (by omega)
      exact kE H locs cells slots ls e1 e2 e3
    · have hn : 6 * n + 6 ≤ L := by
        have := hi n h2
        rw [Int32.lt_iff_toInt_lt] at q
        omega
      refine lv_aload_n hx hb d_law_33 rfl (lv_at hl 1 rfl) ?_
      refine lv_iload hx hb d_law_34 (lv_at hl 0 rfl) ?_
      refine va_sld hx hb hX hbl hbA (LGP_end hP (by omega)).1 (vin_nI (show 6 * n < L by omega) (by omega)) d_law_36 ?_
      refine lv_bipush (v := 31) hx hb d_law_37 (by decide) ?_
      refine lv_iand hx hb d_law_39 ?_
      refine law_sw hst hC hK hX hbl hL hn hP hl (fun H1 locs1 c1 s1 ls1 hP1 hl1 => ?_) _
      refine lv_iinc (v := nI (6 * (n + 1))) hx hb d_law_1679 hl1 (k := 0) rfl ?_ (by decide) rfl (fun ls2 hl2 => ?_)
      · show nI (6 * n) + nI 6 = nI (6 * (n + 1))
        unfold nI
        exact (Int32.ofNat_add _ _).symm
      refine lv_goto (tgt := 23) hx hb d_law_1682 (by decide) ?_
      exact ih (n + 1) H1 locs1 c1 s1 ls2 (by omega) (by omega) hP1 hl2
