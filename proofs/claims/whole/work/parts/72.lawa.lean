/-! THE LAW'S BEGINNING (laid by wip/gen/lawa.py) -/
theorem ww_newlG {p : Program} {l : Launch} {e : Env} {R : Room} {s : State} {m : MethodId} {args : Array Value} {below : List Frame} {meth : Method} {c : Code} {H : Heap} {locs : List Loc} {cells slots : Nat} {Q : State → Prop} {cc : ByteArray} {pc : Nat} {ls : Array Slot} {rest : List Value} {D : va_G} {dA : Nat → ClassId} {A : Nat → Prop} {ad : Nat → Nat → Nat} {cv cv' : Nat → Nat → Prop} {ct ct' : Nat → Nat → va_E} {H0 : Heap} {f0 i0 : Nat} (hexec : p.tables.exec = Jvm.exec) (hb : c.code = cc) (harr : (Cond.arrayClass .long).before args s = true) (hK : va_K D vwCl (TYs dA) s) (hR : WW D vwCl A ad cv ct H) (hS : va_S A H0 H locs) (hA : ∀ q, H0.size ≤ q → A q)
    {n : Int32} {N' : Nat} (hn : ¬ n < 0) (hN : n.toNatClampNeg = N') (hbytes : N' * 8 ≤ 536870912) (hcells : cells + 1 ≤ R.cells) (hslots : slots + N' ≤ R.slots) (hnv : ¬ cv f0 i0) (hcv : ∀ f j, cv' f j → (f = f0 ∧ j = i0) ∨ cv f j) (hct : ∀ f j, cv f j → ct' f j = ct f j) (he : ct' f0 i0 = .inl (dA 1, N', .inr (.inl (fun _ => 0)))) (hdg : decode cc pc = .ok (.newarray .long, 2))
    (kk : ∀ (q : Nat) (H1 : Heap), WW D vwCl A (ad1 ad f0 i0 q) cv' ct' H1 → va_S A H0 H1 locs → W p l e R s m args below meth c H1 locs (cells + 1) (slots + N') Q (F0 m (pc + 2) ls (.ref q :: rest))) : W p l e R s m args below meth c H locs cells slots Q (F0 m pc ls (.int n :: rest)) := by
  obtain ⟨⟨L1, fn, hP, hD, hc⟩, hi⟩ := hR
  refine va_newa (a0 := (N', .inr (.inl (fun _ => 0)))) (atype := .long) (ty := .long) hexec hb harr rfl hK hP hD hS hA (fun cA => rfl) hn hN hbytes hcells hslots hdg (fun q cA H1 hK1 hP1 hD1 hS1 => ?_)
  have hcA := dA1 hK1
  subst hcA
  exact kk q H1 (WW_push hc hi hP1 hD1 hnv hcv hct he) hS1
def cvB (f i : Nat) : Prop := f ≠ 20 ∧ if f < 20 then cvC sig0 f i else cvM tau0 (f - 21) i
def cvG (f i : Nat) : Prop := if f = 20 then i = 0 else if f < 20 then cvC sig0 f i else cvM tau0 (f - 21) i
def adB (u um : Nat → Nat → Nat) (f i : Nat) : Nat := if f < 20 then u f i else um (f - 21) i
def ctB (dA : Nat → ClassId) (u um : Nat → Nat → Nat) (f i : Nat) : va_E := if f < 20 then ctC dA u sig0 f i else ctM dA um tau0 (f - 21) i
def ctG (dA : Nat → ClassId) (u um : Nat → Nat → Nat) (f i : Nat) : va_E := if f = 20 then .inl (dA 1, 1, .inr (.inl (fun _ => 0))) else ctB dA u um f i
theorem WW_nil {D : va_G} {A : Nat → Prop} {H : Heap} : WW D vwCl A (fun _ _ => 0) (cvL []) ct0 H :=
  ⟨⟨[], fun _ => .inr (0, []), fun k q h => by simp [va_pl] at h, ⟨fun i j p q h1 h2 e => by simp [va_pl] at h1, fun k q h => by simp [va_pl] at h⟩, fun f i q => nomatch q⟩, fun f i g j q => nomatch q⟩
/-- two worlds made, then the row: they are apart -/
theorem made {D : va_G} {dA : Nat → ClassId} {s : State} {x q : Nat} {u um : Nat → Nat → Nat} {H : Heap} {locs : List Loc} (h : WW D vwCl (newA s) (ad1 (adB u um) 20 0 q) cvG (ctG dA u um) H) (hL : LX u sig0 x) (hS : va_S (newA s) s.heap H locs) : LGS D dA s x (u 0 0) (um 0 0) q sig0 tau0 (fun _ => 0) u um H locs := by
  have eT : ∀ f i, cvT sig0 f i → cvG f i ∧ adT u q f i = ad1 (adB u um) 20 0 q f i ∧ ctT dA u sig0 (fun _ => 0) f i = ctG dA u um f i := fun f i h => by
    by_cases e : f = 20
    · subst e
      have h : i = 0 := h
      subst h
      exact ⟨rfl, rfl, rfl⟩
    · rw [cvT_ne e] at h
      have hl := cvC_lt h
      refine ⟨?_, ?_, ?_⟩
      · unfold cvG
        rw [if_neg e, if_pos hl]
        exact h
      · rw [adT_ne e, ad1_ne (fun z => e z.1)]
        exact (if_pos hl).symm
      · rw [ctT_ne e]
        exact ((if_neg e).trans (if_pos hl)).symm
  have eM : ∀ f i, cvM tau0 f i → cvG (f + 21) i ∧ um f i = ad1 (adB u um) 20 0 q (f + 21) i ∧ ctM dA um tau0 f i = ctG dA u um (f + 21) i := fun f i h => by
    have e : ¬ f + 21 = 20 := by omega
    have hl : ¬ f + 21 < 20 := by omega
    have hs : f + 21 - 21 = f := by omega
    refine ⟨?_, ?_, ?_⟩
    · unfold cvG
      rw [if_neg e, if_neg hl, hs]
      exact h
    · rw [ad1_ne (fun z => e z.1)]
      unfold adB
      rw [if_neg hl, hs]
    · unfold ctG ctB
      rw [if_neg e, if_neg hl, hs]
  refine ⟨WW_sub h (fun f i z => ⟨f, i, eT f i z⟩) (fun f i g j z1 z2 e => ?_), WW_sub h (fun f i z => ⟨f + 21, i, eM f i z⟩) (fun f i g j z1 z2 e => ?_), fun f i g j z1 z2 e => ?_, hL, rfl, rfl, hS⟩
  · have k1 := eT f i z1
    have k2 := eT g j z2
    exact h.2 f i g j k1.1 k2.1 (by rw [← k1.2.1, ← k2.2.1]; exact e)
  · have k1 := eM f i z1
    have k2 := eM g j z2
    have k3 := h.2 (f + 21) i (g + 21) j k1.1 k2.1 (by rw [← k1.2.1, ← k2.2.1]; exact e)
    exact ⟨by omega, k3.2⟩
  · have k1 := eT f i z1
    have k2 := eM g j z2
    have k3 := (h.2 f i (g + 21) j k1.1 k2.1 (by rw [← k1.2.1, ← k2.2.1]; exact e)).1
    by_cases e2 : f = 20
    · omega
    · rw [cvT_ne e2] at z1
      have := cvC_lt z1
      omega
set_option maxHeartbeats 1000000 in
theorem law_begin {p : Program} {l : Launch} {e : Env} {s : State} {m : MethodId} {args : Array Value} {below : List Frame} {meth : Method} {c : Code} {Q : State → Prop} {ls : Array Slot} {D : va_G} {dA : Nat → ClassId} {x mi b L : Nat} {xs : Nat → Int32} (hst : l.stackTraces = false) (h0 : ∀ w ∈ lw_tbl, w.before args s = true) (hC : CTX p s m args meth c code 7 RL ret) (hK : LK D dA s x mi) (hX : va_X b L xs s s.heap) (hbl : b < s.heap.size) (hL : L ≤ 3072) (hl : lv_has ls 7 [(0, .ref b)]) (kE : ∀ (H1 : Heap) (locs1 : List Loc) (c1 s1 : Nat) (ls1 : Array Slot), va_S (newA s) s.heap H1 locs1 → c1 ≤ 601024 → s1 ≤ 7293034 → W p l e room_1 s m args below meth c H1 locs1 c1 s1 Q (F0 m 1685 ls1 [])) : W p l e room_1 s m args below meth c s.heap [] 0 0 Q (F0 m 0 ls []) := by
  obtain ⟨hx, hb, hml, hown, hts, hr, hlk⟩ := id hC
  have hA : ∀ q, s.heap.size ≤ q → newA s q := newA_in s
  have hS0 : va_S (newA s) s.heap s.heap [] := va_S.rf
  refine cn_o 0 0 (C := RX5) (T := TX5) (N := 8) (ci := 6) (fs := f0NC) hx hb hts iuX5 tyX5 tyX5_ok hown (h0 _ (lw_in1 (List.mem_of_getElem? (i := 24) rfl))) (h0 _ (lw_in1 (List.mem_of_getElem? (i := 25) rfl))) (h0 _ (lw_in1 (List.mem_of_getElem? (i := 1) rfl))) hK.1.1 WW_nil hS0 hA rfl (by decide) (Nat.le_of_ble_eq_true rfl) (Nat.le_of_ble_eq_true rfl) (by decide) d_law_0 (fun q5 H hAq hR hS => ?_)
  refine lv_dup hx hb d_law_3 rfl ?_
  have hf : ∀ q, A1 q5 H.size q → newA s q := fun q h => h.elim (fun e => e ▸ hAq) (fun h => hA q (Nat.le_trans hS.1 h))
  refine va_callv (va_runI (As := []) (rest := [.ref q5]) ⟨hx, hb, hml, hown, hts⟩ (mX5_init l D dA q5 _ x mi) ⟨callB_of 0 hts (gN_of (wu_mem (lw_in1 (List.mem_of_getElem? (i := 28) rfl)) rfl)) rfl rfl rfl (h0 _ (lw_in1 (List.mem_of_getElem? (i := 1) rfl))) (h0 _ (lw_in1 (List.mem_of_getElem? (i := 26) rfl))) (by decide +kernel) ⟨Nat.le_of_ble_eq_true rfl, Nat.le_of_ble_eq_true rfl⟩, rfl, (h0 _ (lw_in1 (List.mem_of_getElem? (i := 27) rfl)))⟩ (pre1x_of (f := 0) (i := 0) hR (by decide) rfl hK.1 rfl hA hS hK.2.1) rfl rfl hl.1 rfl (lv_room (Nat.le_of_ble_eq_true rfl)) d_law_4 ⟨Nat.le_of_ble_eq_true rfl, Nat.le_of_ble_eq_true rfl⟩) hS (fun q _ h => hf q h) hf (fun u t H1 locs1 ht hvm hw hB hz hk hS1 => ?_)
  obtain ⟨hu, hLX⟩ := hw
  have hB : HC D dA (A1 q5 H.size) u sig0 t.heap := hB
  rw [ht] at hB
  have hC1 : HC D dA (newA s) u sig0 H1 := WW_weaken hB hf
  clear hk hB hz hvm hf hS hR
  subst hu
  refine lv_astore_n (lv' := [(1, .ref (u 0 0)), (0, .ref b)]) hx hb d_law_7 rfl hl (by decide) rfl (fun ls hl => ?_)
  refine ww_new (f0 := 21) (i0 := 0) (cv' := fun f i => (f = 21 ∧ i = 0) ∨ cvC sig0 f i) (ct' := fun _ => ctU (ctC dA u sig0) 21 0 (.inr (7, f0NM))) (C := RX6) (T := TX6) (N := 22) (ci := 7) (fs := f0NM) hx hb hts iuX6 tyX6 tyX6_ok hown (h0 _ (lw_in4 (List.mem_of_getElem? (i := 27) rfl))) (h0 _ (lw_in4 (List.mem_of_getElem? (i := 28) rfl))) (h0 _ (lw_in1 (List.mem_of_getElem? (i := 8) rfl))) hK.1.1 hC1 hS1 hA rfl (by decide) (Nat.le_of_ble_eq_true rfl) (Nat.le_of_ble_eq_true rfl) (fun z => absurd (cvC_lt z) (by decide)) (fun f j z => z) (fun q f j z => if_neg (fun z2 => by have := cvC_lt z; omega)) (fun q => if_pos ⟨rfl, rfl⟩) d_law_8 (fun qM H hAq hne hR hS => ?_)
  refine lv_dup hx hb d_law_11 rfl ?_
  have hf : ∀ q, A1 qM H.size q → newA s q := fun q h => h.elim (fun e => e ▸ hAq) (fun h => hA q (Nat.le_trans hS.1 h))
  refine va_callv (va_runI (As := []) (rest := [.ref qM]) ⟨hx, hb, hml, hown, hts⟩ (mX6_init l D dA qM _) ⟨callB_of 0 hts (gN_of (wu_mem (lw_in4 (List.mem_of_getElem? (i := 31) rfl)) rfl)) rfl rfl rfl (h0 _ (lw_in1 (List.mem_of_getElem? (i := 8) rfl))) (h0 _ (lw_in4 (List.mem_of_getElem? (i := 29) rfl))) (by decide +kernel) ⟨Nat.le_of_ble_eq_true rfl, Nat.le_of_ble_eq_true rfl⟩, rfl, (h0 _ (lw_in4 (List.mem_of_getElem? (i := 30) rfl)))⟩ (pre1_of (f := 21) (i := 0) hR (Or.inl ⟨rfl, rfl⟩) (if_pos ⟨rfl, rfl⟩) hK.1 (ad1_at u 21 0 qM)) rfl rfl hl.1 rfl (lv_room (Nat.le_of_ble_eq_true rfl)) d_law_12 ⟨Nat.le_of_ble_eq_true rfl, Nat.le_of_ble_eq_true rfl⟩) hS (fun q _ h => hf q h) hf (fun um t H2 locs2 ht hvm hw hB hz hk hS2 => ?_)
  have hB : WW D vwCl (A1 qM H.size) um (cvM tau0) (ctM dA um tau0) t.heap := hB
  rw [ht] at hB
  have hm : WW D vwCl (newA s) (adB u um) cvB (ctB dA u um) H2 := by
    refine WW_merge (A1 := A1 qM H.size) hR hf hB hk (fun g j z => ?_) (fun f i g j z1 z2 e => ?_)
    · by_cases hg : g < 20
      · have z3 : cvC sig0 g j := by
          have z4 := z.2
          rw [if_pos hg] at z4
          exact z4
        have e1 : ad1 u 21 0 qM g j = u g j := ad1_ne (fun z5 => by omega)
        refine Or.inl ⟨Or.inr z3, ?_, ?_, ?_⟩
        · rw [e1]
          exact if_pos hg
        · exact (if_pos hg).trans (if_neg (fun z5 => by omega)).symm
        · rw [e1]
          intro z5
          rcases z5 with z5 | z5
          · exact hne g j z3 z5
          · have z6 := WW_lt hR (Or.inr z3)
            rw [e1] at z6
            omega
      · have z4 := z.2
        rw [if_neg hg] at z4
        exact Or.inr ⟨g - 21, j, z4, if_neg hg, if_neg hg⟩
    · have hap : ∀ f i g j, cvC sig0 f i → cvM tau0 g j → u f i ≠ um g j := fun f i g j y1 y2 y3 => by
        have e1 : ad1 u 21 0 qM f i = u f i := ad1_ne (fun z5 => by have := cvC_lt y1; omega)
        have y4 := WW_A hB y2
        rw [← y3] at y4
        rcases y4 with y4 | y4
        · exact hne f i y1 y4
        · have z6 := WW_lt hR (Or.inr y1)
          rw [e1] at z6
          omega
      have w1 := z1.2
      have w2 := z2.2
      have n1 := z1.1
      have n2 := z2.1
      unfold adB at e
      by_cases hf1 : f < 20 <;> by_cases hg1 : g < 20
      · rw [if_pos hf1] at e w1
        rw [if_pos hg1] at e w2
        exact hC1.2 f i g j w1 w2 e
      · rw [if_pos hf1] at e w1
        rw [if_neg hg1] at e w2
        exact absurd e (hap _ _ _ _ w1 w2)
      · rw [if_neg hf1] at e w1
        rw [if_pos hg1] at e w2
        exact absurd e.symm (hap _ _ _ _ w2 w1)
      · rw [if_neg hf1] at e w1
        rw [if_neg hg1] at e w2
        have w3 := hB.2 _ _ _ _ w1 w2 e
        exact ⟨by omega, w3.2⟩
  have hw : um 0 0 = qM := hw
  subst hw
  refine lv_astore_n (lv' := [(2, .ref (um 0 0)), (1, .ref (u 0 0)), (0, .ref b)]) hx hb d_law_15 rfl hl (by decide) rfl (fun ls hl => ?_)
  refine lv_iconst (v := 1) hx hb d_law_16 (by decide) ?_
  refine ww_newlG (f0 := 20) (i0 := 0) (cv' := cvG) (ct' := ctG dA u um) hx hb (h0 _ (lw_in1 (List.mem_of_getElem? (i := 98) rfl))) hK.1.1 hm hS2 hA (by decide) (show (1 : Int32).toNatClampNeg = 1 by decide) (by decide) (Nat.le_of_ble_eq_true rfl) (Nat.le_of_ble_eq_true rfl) (fun z => z.1 rfl) (fun f j z => ?_) (fun f j z => if_neg z.1) (if_pos rfl) d_law_17 (fun qo H3 hG hS3 => ?_)
  · by_cases e : f = 20
    · subst e
      exact Or.inl ⟨rfl, z⟩
    · refine Or.inr ⟨e, ?_⟩
      unfold cvG at z
      rw [if_neg e] at z
      exact z
  refine lv_astore_n (lv' := [(3, .ref qo), (2, .ref (um 0 0)), (1, .ref (u 0 0)), (0, .ref b)]) hx hb d_law_19 rfl hl (by decide) rfl (fun ls hl => ?_)
  refine lv_iconst (v := 0) hx hb d_law_20 (by decide) ?_
  refine lv_istore (i := 4) (lv' := [(4, .int 0), (3, .ref qo), (2, .ref (um 0 0)), (1, .ref (u 0 0)), (0, .ref b)]) hx hb d_law_21 hl (by decide) rfl (fun ls hl => ?_)
  exact law_loop hst hC hK hX hbl hL kE 512 0 H3 locs2 _ _ ls (by omega) (by omega) ⟨u, sig0, fun _ => 0, um, tau0, made hG hLX hS3, INV_0, by omega, by omega⟩ (lv_sub hl [0, 4, 3, 2, 1] rfl)
