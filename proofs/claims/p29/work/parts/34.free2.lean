/-! PURE: margin of the one that is checked; what is free; who has the most free -/
theorem x_lossT {σ τ : St} (hIQ : IQ σ τ) (hO : BO τ) (hP : BP τ) (hQ : BQ τ) {β : Type} (K : St → Int32 → Int64 → Int64 → Int64 → Int32 → Int32 → Option β) {m v p : Nat} (hm : m < 5) (hv : v < 4) (hp : p < 3) (n : Nat) (s b x : Int64) (a : Int32)
    (hs : s.toInt = ps τ (3 * m + p) - sRest τ m p 0) (hb : b.toInt = ps τ (3 * m + p) + sRest τ m p 1) {Y : Nat → Int} (hY : ∀ w, w < 4 → (gL σ 16 0 w).toInt = Y w) (hY2 : -45000000 ≤ Y v ∧ Y v ≤ 45000000) :
    ∃ σ', scr σ σ' ∧ (∀ w, w < 4 → (gL σ' 16 0 w).toInt = if w = v then Y v + sLs τ m v p else Y w) ∧ fX5_marginOf_L65 K (n + 1) σ (nI v) s b x (nI p) a = fX5_marginOf_L65 K n σ' (nI (v + 1)) s b x (nI p) a := by
  refine ⟨_, scr_pL σ 0 v _, fun w hw => ?_, x_lossS hIQ K hv hp n s b x a⟩
  rw [gL_pL]
  by_cases e : w = v
  · subst e
    rw [if_pos ⟨rfl, rfl, rfl⟩, if_pos rfl]
    have h1 := ps_bnd hO hP (j := 3 * m + p) (by omega)
    have h2 := sRest_b hO m p 1
    have h3 := sRest_b hO m p 0
    have h4 := mv_b hQ hw hp
    have h5 := ls_b hO hP hQ hm hw hp
    have b1 : ((-b) * (gI τ 2 0 (3 * w + p)).toInt64).toInt = -(ps τ (3 * m + p) + sRest τ m p 1) * mv τ w p := mul64 (neg64 hb (by omega)) (wid rfl) (by show _ ≤ _ * mv τ w p; omega) (by show _ * mv τ w p < _; omega)
    have b0 : ((-s) * (gI τ 2 0 (3 * w + p)).toInt64).toInt = -(ps τ (3 * m + p) - sRest τ m p 0) * mv τ w p := mul64 (neg64 hs (by omega)) (wid rfl) (by show _ ≤ _ * mv τ w p; omega) (by show _ * mv τ w p < _; omega)
    generalize hB1 : -(ps τ (3 * m + p) + sRest τ m p 1) * mv τ w p = B1 at b1 h5
    generalize hB0 : -(ps τ (3 * m + p) - sRest τ m p 0) * mv τ w p = B0 at b0 h5
    have hsl : sLs τ m w p = if B1 < B0 then B0 else B1 := by unfold sLs imax; rw [hB1, hB0]
    rw [hsl]
    have hY := hY w hw
    by_cases c : (-s) * (gI τ 2 0 (3 * w + p)).toInt64 < (-b) * (gI τ 2 0 (3 * w + p)).toInt64
    · have c' := (lt64 b0 b1).mp c
      rw [if_pos c, if_neg (show ¬ B1 < B0 by omega)]
      exact add64 hY b1 (by omega) (by omega)
    · have c' := mt (lt64 b0 b1).mpr c
      rw [if_neg c]
      have e : (if B1 < B0 then B0 else B1) = B0 := by split <;> omega
      rw [e]
      exact add64 hY b0 (by omega) (by omega)
  · rw [if_neg (fun q => e q.2.2), if_neg e]
    exact hY w hw
theorem x_lossP {σ τ : St} (hIQ : IQ σ τ) (hO : BO τ) (hP : BP τ) (hQ : BQ τ) {β : Type} (K : St → Int32 → Int64 → Int64 → Int64 → Int32 → Int32 → Option β) {m p : Nat} (hm : m < 5) (hp : p < 3) (s b x : Int64) (a : Int32)
    (hs : s.toInt = ps τ (3 * m + p) - sRest τ m p 0) (hb : b.toInt = ps τ (3 * m + p) + sRest τ m p 1) {Y : Nat → Int} (hY : ∀ w, w < 4 → (gL σ 16 0 w).toInt = Y w) (hY2 : ∀ w, w < 4 → -45000000 ≤ Y w ∧ Y w ≤ 45000000) :
    ∃ σ', scr σ σ' ∧ (∀ w, w < 4 → (gL σ' 16 0 w).toInt = Y w + sLs τ m w p) ∧ fX5_marginOf_L65 K 1000 σ 0 s b x (nI p) a = K σ' (nI 4) s b x (nI p) a := by
  obtain ⟨s1, c1, y1, e1⟩ := x_lossT hIQ hO hP hQ K hm (v := 0) (by omega) hp 999 s b x a hs hb hY (hY2 0 (by omega))
  obtain ⟨s2, c2, y2, e2⟩ := x_lossT (IQ_scr c1 hIQ) hO hP hQ K hm (v := 1) (by omega) hp 998 s b x a hs hb y1 (by rw [if_neg (by omega)]; exact hY2 1 (by omega))
  obtain ⟨s3, c3, y3, e3⟩ := x_lossT (IQ_scr c2 (IQ_scr c1 hIQ)) hO hP hQ K hm (v := 2) (by omega) hp 997 s b x a hs hb y2 (by rw [if_neg (by omega), if_neg (by omega)]; exact hY2 2 (by omega))
  obtain ⟨s4, c4, y4, e4⟩ := x_lossT (IQ_scr c3 (IQ_scr c2 (IQ_scr c1 hIQ))) hO hP hQ K hm (v := 3) (by omega) hp 996 s b x a hs hb y3 (by rw [if_neg (by omega), if_neg (by omega), if_neg (by omega)]; exact hY2 3 (by omega))
  refine ⟨s4, scr_tr (scr_tr c1 c2) (scr_tr c3 c4), fun w hw => ?_, (e1.trans e2).trans ((e3.trans e4).trans ?_)⟩
  · rw [y4 w hw]
    rcases (show w = 0 ∨ w = 1 ∨ w = 2 ∨ w = 3 by omega) with rfl | rfl | rfl | rfl <;> simp
  · show fX5_marginOf_L65 K (995 + 1) _ _ _ _ _ _ _ = _
    rw [fX5_marginOf_L65.eq_2, if_pos (show (4 : Int32) ≤ nI 4 by decide)]
theorem x_prodS {σ τ : St} (hIQ : IQ σ τ) (hIO : IO σ τ) (hIN : IN σ) (hIP : IP σ τ) (hO : BO τ) (hP : BP τ) (hQ : BQ τ) {β : Type} (K : St → Int32 → Int32 → Option β) {m p : Nat} (hm : m < 5) (hp : p < 3) (n : Nat)
    {Y : Nat → Int} (hY : ∀ w, w < 4 → (gL σ 16 0 w).toInt = Y w) (hY2 : ∀ w, w < 4 → -45000000 ≤ Y w ∧ Y w ≤ 45000000) :
    ∃ σ', scr σ σ' ∧ (∀ w, w < 4 → (gL σ' 16 0 w).toInt = Y w + sLs τ m w p) ∧ fX5_marginOf_L22 K (n + 1) σ (nI p) (nI m) = fX5_marginOf_L22 K n σ' (nI (p + 1)) (nI m) := by
  obtain ⟨r1, e1, t1⟩ := x_rest hIO hIN hO m p 1
  obtain ⟨r0, e0, t0⟩ := x_rest hIO hIN hO m p 0
  have h1 := ps_bnd hO hP (j := 3 * m + p) (by omega)
  have h2 := sRest_b hO m p 1
  have h3 := sRest_b hO m p 0
  have hx : (gI τ 4 0 (3 * m + p)).toInt64.toInt = ps τ (3 * m + p) := wid rfl
  obtain ⟨σ', hc, hy, he⟩ := x_lossP hIQ hO hP hQ (fun s15 y16 y17 y18 y19 y20 y21 => kst (y20 + 1) (fun x22 => fX5_marginOf_L22 K n s15 x22 y21)) hm hp ((gI τ 4 0 (3 * m + p)).toInt64 - r0) ((gI τ 4 0 (3 * m + p)).toInt64 + r1) (gI τ 4 0 (3 * m + p)).toInt64 (nI m) (sub64 hx t0 (by omega) (by omega)) (add64 hx t1 (by omega) (by omega)) hY hY2
  refine ⟨σ', hc, hy, ?_⟩
  rw [fX5_marginOf_L22.eq_2, if_neg (show ¬ (3 : Int32) ≤ nI p from nI_ge (a := p) (b := 3) hp (by omega)), if_gd (vin_nI hm (by omega)), if_gd (vin_nI hp (by omega)), clamp_nI (show p < 2147483648 by omega), clamp_nI (show m < 2147483648 by omega), (hIP m hm p hp).1]
  simp only [kst] at he ⊢
  rw [e1, bd_some, e0, bd_some, he, nI_1]
theorem x_zeroS {σ : St} {v : Nat} (hv : v < 4) (n : Nat) (a : Int32) : fX5_marginOf_L2 (n + 1) σ (nI v) a = fX5_marginOf_L2 n (pL σ 16 0 v 0) (nI (v + 1)) a := by
  rw [fX5_marginOf_L2.eq_2, if_neg (show ¬ (4 : Int32) ≤ nI v from nI_ge (a := v) (b := 4) hv (by omega)), if_gd (vin_nI hv (by omega)), clamp_nI (show v < 2147483648 by omega)]
  simp only [kst, nI_1]
theorem x_worstS {σ : St} {β : Type} (K : St → Int32 → Int64 → Int32 → Option β) {v : Nat} (hv : v < 4) (n : Nat) (w : Int64) (a : Int32) {X Y : Int} (hw : w.toInt = X) (hY : (gL σ 16 0 v).toInt = Y) : ∃ w', w'.toInt = imax X Y ∧ fX5_marginOf_L128 K (n + 1) σ (nI v) w a = fX5_marginOf_L128 K n σ (nI (v + 1)) w' a := by
  rw [fX5_marginOf_L128.eq_2, if_neg (show ¬ (4 : Int32) ≤ nI v from nI_ge (a := v) (b := 4) hv (by omega)), if_gd (vin_nI hv (by omega)), clamp_nI (show v < 2147483648 by omega)]
  simp only [kst, nI_1]
  refine ⟨_, ?_, rfl⟩
  unfold imax
  by_cases c : gL σ 16 0 v < w
  · have c' := (lt64 hY hw).mp c
    rw [if_pos c, if_neg (by omega), hw]
  · have c' := mt (lt64 hY hw).mpr c
    rw [if_neg c, hY]
    split <;> omega
theorem x_marg {σ τ : St} (hIQ : IQ σ τ) (hIO : IO σ τ) (hIN : IN σ) (hIP : IP σ τ) (hO : BO τ) (hP : BP τ) (hQ : BQ τ) {m : Nat} (hm : m < 5) : ∃ r σ', fX5_marginOf σ (nI m) = some (r, σ') ∧ r.toInt = sMarg τ m ∧ scr σ σ' := by
  obtain ⟨s0, hs0⟩ : ∃ s0, s0 = pL (pL (pL (pL σ 16 0 0 0) 16 0 1 0) 16 0 2 0) 16 0 3 0 := ⟨_, rfl⟩
  have c0 : scr σ s0 := by rw [hs0]; exact scr_tr (scr_tr (scr_pL _ _ _ _) (scr_pL _ _ _ _)) (scr_tr (scr_pL _ _ _ _) (scr_pL _ _ _ _))
  have y0 : ∀ w, w < 4 → (gL s0 16 0 w).toInt = 0 := fun w hw => by
    rw [hs0]
    rcases (show w = 0 ∨ w = 1 ∨ w = 2 ∨ w = 3 by omega) with rfl | rfl | rfl | rfl <;> rfl
  have l0 : ∀ w, w < 4 → _ := fun w hw => sLs_b hO hP hQ hm hw (p := 0) (by omega)
  have l1 : ∀ w, w < 4 → _ := fun w hw => sLs_b hO hP hQ hm hw (p := 1) (by omega)
  have l2 : ∀ w, w < 4 → _ := fun w hw => sLs_b hO hP hQ hm hw (p := 2) (by omega)
  generalize hK : (fun (s23 : St) (_ y25 : Int32) => fX5_marginOf_L128 (fun s30 _ y32 _ => some ((y32, s30))) 1000 s23 0 0 y25) = K
  obtain ⟨s1, c1, y1, e1⟩ := x_prodS (IQ_scr c0 hIQ) (IO_scr c0 hIO) (IN_scr c0 hIN) (IP_scr c0 hIP) hO hP hQ K hm (p := 0) (by omega) 999 (Y := fun _ => 0) y0 (fun w hw => by omega)
  have c1' := scr_tr c0 c1
  obtain ⟨s2, c2, y2, e2⟩ := x_prodS (IQ_scr c1' hIQ) (IO_scr c1' hIO) (IN_scr c1' hIN) (IP_scr c1' hIP) hO hP hQ K hm (p := 1) (by omega) 998 y1 (fun w hw => by have := l0 w hw; omega)
  have c2' := scr_tr c1' c2
  obtain ⟨s3, c3, y3, e3⟩ := x_prodS (IQ_scr c2' hIQ) (IO_scr c2' hIO) (IN_scr c2' hIN) (IP_scr c2' hIP) hO hP hQ K hm (p := 2) (by omega) 997 y2 (fun w hw => by have := l0 w hw; have := l1 w hw; omega)
  have c3' := scr_tr c2' c3
  have e4 : fX5_marginOf_L22 K 1000 s0 0 (nI m) = K s3 (nI 3) (nI m) := by
    refine (e1.trans e2).trans (e3.trans ?_)
    show fX5_marginOf_L22 K (996 + 1) _ _ _ = _
    rw [fX5_marginOf_L22.eq_2, if_pos (show (3 : Int32) ≤ nI 3 by decide)]
  have hz : fX5_marginOf σ (nI m) = fX5_marginOf_L22 K 1000 s0 0 (nI m) := by
    unfold fX5_marginOf
    show fX5_marginOf_L2 (999 + 1) σ (nI 0) (nI m) = _
    rw [x_zeroS (by omega), x_zeroS (by omega), x_zeroS (by omega), x_zeroS (by omega), fX5_marginOf_L2.eq_2, if_pos (show (4 : Int32) ≤ nI 4 by decide), ← hK, hs0]
  generalize hK2 : (fun (s30 : St) (_ : Int32) (y32 : Int64) (_ : Int32) => some ((y32, s30))) = K2 at hK
  have y3 : ∀ w, w < 4 → (gL s3 16 0 w).toInt = sLoss τ m w := fun w hw => by rw [y3 w hw]; unfold sLoss; omega
  obtain ⟨w1, t1, f1⟩ := x_worstS (σ := s3) K2 (v := 0) (by omega) 999 0 (nI m) (X := 0) rfl (y3 0 (by omega))
  obtain ⟨w2, t2, f2⟩ := x_worstS (σ := s3) K2 (v := 1) (by omega) 998 w1 (nI m) t1 (y3 1 (by omega))
  obtain ⟨w3, t3, f3⟩ := x_worstS (σ := s3) K2 (v := 2) (by omega) 997 w2 (nI m) t2 (y3 2 (by omega))
  obtain ⟨w4, t4, f4⟩ := x_worstS (σ := s3) K2 (v := 3) (by omega) 996 w3 (nI m) t3 (y3 3 (by omega))
  refine ⟨w4, s3, hz.trans (e4.trans ?_), t4, c3'⟩
  rw [← hK]
  refine (f1.trans f2).trans ((f3.trans f4).trans ?_)
  show fX5_marginOf_L128 K2 (995 + 1) _ _ _ _ = _
  rw [fX5_marginOf_L128.eq_2, if_pos (show (4 : Int32) ≤ nI 4 by decide), ← hK2]
/-- the two states hold the same, and what is bounded -/
def RD (σ τ : St) : Prop := IA σ τ ∧ IU σ τ ∧ IP σ τ ∧ IQ σ τ ∧ IO σ τ ∧ IK σ τ ∧ IW σ τ ∧ IN σ ∧ BO τ ∧ BQ τ ∧ BP τ
theorem RD_scr {σ σ1 τ : St} (c : scr σ σ1) (h : RD σ τ) : RD σ1 τ := by
  obtain ⟨h1, h2, h3, h4, h5, h6, h7, h8, h9⟩ := h
  exact ⟨IA_scr c h1, IU_scr c h2, IP_scr c h3, IQ_scr c h4, IO_scr c h5, IK_scr c h6, IW_scr c h7, IN_scr c h8, h9⟩
def sFree (τ : St) (m : Nat) : Int64 := (sEq τ m + sCol τ m) - Int64.ofInt (sMarg τ m)
theorem x_free {σ τ : St} (h : RD σ τ) {m : Nat} (hm : m < 5) : ∃ σ', fX5_freeOf σ (nI m) = some (sFree τ m, σ') ∧ scr σ σ' := by
  obtain ⟨hA, hU, hP, hQ, hO, hK, hW, hN, bO, bQ, bP⟩ := h
  obtain ⟨r, σ', e, t, c⟩ := x_marg hQ hO hN hP bO bP bQ hm
  refine ⟨σ', ?_, c⟩
  unfold fX5_freeOf
  rw [x_eq hA hP hQ hm, bd_some, x_col hK hU hm, bd_some, e, bd_some]
  unfold sFree
  rw [← t, Int64.ofInt_toInt]
theorem y_free {σ τ : St} (h : RD σ τ) {m : Nat} (hm : m < 5) : fX6_freeOf τ (nI m) = some (sFree τ m) := by
  obtain ⟨hA, hU, hP, hQ, hO, hK, hW, hN, bO, bQ, bP⟩ := h
  obtain ⟨w, e, t⟩ := y_marg bO bP bQ hm
  unfold fX6_freeOf
  rw [y_eq hm, bd_some, y_col hm (fun k hk => IK_ne hK hk), bd_some, e, bd_some]
  unfold sFree
  rw [← t, ← Int32.toInt_toInt64, Int64.ofInt_toInt]
-- who has the most free
theorem richS {σ τ : St} (h : RD σ τ) {m i : Nat} (hm : m < 5) (hf : ¬ gI τ 10 0 m = 0) (hi : i < 5) (n1 n2 : Nat) (f : Int32) (mo : Int64) (hmo : f = -1 ∨ ∃ j, j < 5 ∧ j ≠ m ∧ f = nI j ∧ mo = sFree τ j ∧ gI τ 10 0 j = 0) :
    ∃ σ' f' mo', scr σ σ' ∧ (f' = -1 ∨ ∃ j, j < 5 ∧ j ≠ m ∧ f' = nI j ∧ mo' = sFree τ j ∧ gI τ 10 0 j = 0) ∧ fX5_memberWithMostFree_L7 (n1 + 1) σ (nI i) mo f = fX5_memberWithMostFree_L7 n1 σ' (nI (i + 1)) mo' f' ∧ fX6_richest_L4 τ (n2 + 1) (nI i) f (nI m) = fX6_richest_L4 τ n2 (nI (i + 1)) f' (nI m) := by
  have hge : ¬ (5 : Int32) ≤ nI i := nI_ge (a := i) (b := 5) hi (by omega)
  rw [fX5_memberWithMostFree_L7.eq_2, fX6_richest_L4.eq_2, if_neg hge, if_neg hge, if_gd (vin_nI hi (by omega)), if_gd (vin_nI hi (by omega)), clamp_nI (show i < 2147483648 by omega), (h.1 i hi).2.2]
  simp only [kst, nI_1]
  by_cases c0 : gI τ 10 0 i = 0
  · have him : i ≠ m := fun e => hf (by rw [← e]; exact c0)
    obtain ⟨σ', e1, c1⟩ := x_free h hi
    rw [if_neg (not_not_intro c0), e1, bd_some, if_neg (fun e => him ((nI_eq (by omega) (by omega)).mp e)), if_neg (not_not_intro c0)]
    rcases hmo with rfl | ⟨j, hj, hjm, rfl, rfl, hj0⟩
    · rw [if_pos rfl, if_pos rfl]
      exact ⟨σ', nI i, _, c1, Or.inr ⟨i, hi, him, rfl, rfl, c0⟩, rfl, rfl⟩
    · rw [if_neg (nI_ne1 (by omega)), if_neg (nI_ne1 (by omega)), y_free h hi, bd_some, y_free h hj, bd_some]
      by_cases c2 : sFree τ i ≤ sFree τ j
      · rw [if_pos c2, if_pos c2]
        exact ⟨σ', nI j, _, c1, Or.inr ⟨j, hj, hjm, rfl, rfl, hj0⟩, rfl, rfl⟩
      · rw [if_neg c2, if_neg c2]
        exact ⟨σ', nI i, _, c1, Or.inr ⟨i, hi, him, rfl, rfl, c0⟩, rfl, rfl⟩
  · rw [if_pos c0, if_pos c0, ite_self]
    exact ⟨σ, f, mo, scr_rfl σ, hmo, rfl, rfl⟩
theorem rich {σ τ : St} (h : RD σ τ) {m : Nat} (hm : m < 5) (hf : ¬ gI τ 10 0 m = 0) : ∃ f σ', scr σ σ' ∧ fX5_memberWithMostFree σ = some (f, σ') ∧ fX6_richest τ (nI m) = some f ∧ (f = -1 ∨ ∃ j, j < 5 ∧ j ≠ m ∧ f = nI j ∧ gI τ 10 0 j = 0) := by
  obtain ⟨s1, f1, o1, c1, m1, a1, b1⟩ := richS h hm hf (i := 0) (by omega) 999 999 (-1) 0 (Or.inl rfl)
  have h1 := RD_scr c1 h
  obtain ⟨s2, f2, o2, c2, m2, a2, b2⟩ := richS h1 hm hf (i := 1) (by omega) 998 998 f1 o1 m1
  have h2 := RD_scr c2 h1
  obtain ⟨s3, f3, o3, c3, m3, a3, b3⟩ := richS h2 hm hf (i := 2) (by omega) 997 997 f2 o2 m2
  have h3 := RD_scr c3 h2
  obtain ⟨s4, f4, o4, c4, m4, a4, b4⟩ := richS h3 hm hf (i := 3) (by omega) 996 996 f3 o3 m3
  have h4 := RD_scr c4 h3
  obtain ⟨s5, f5, o5, c5, m5, a5, b5⟩ := richS h4 hm hf (i := 4) (by omega) 995 995 f4 o4 m4
  refine ⟨f5, s5, scr_tr (scr_tr (scr_tr c1 c2) (scr_tr c3 c4)) c5, (a1.trans a2).trans ((a3.trans a4).trans (a5.trans ?_)), (b1.trans b2).trans ((b3.trans b4).trans (b5.trans ?_)), ?_⟩
  · show fX5_memberWithMostFree_L7 (994 + 1) _ _ _ _ = _
    rw [fX5_memberWithMostFree_L7.eq_2, if_pos (show (5 : Int32) ≤ nI 5 by decide)]
  · show fX6_richest_L4 τ (994 + 1) _ _ _ = _
    rw [fX6_richest_L4.eq_2, if_pos (show (5 : Int32) ≤ nI 5 by decide)]
  · rcases m5 with e | ⟨j, q1, q2, q3, q4, q5⟩
    · exact Or.inl e
    · exact Or.inr ⟨j, q1, q2, q3, q5⟩
