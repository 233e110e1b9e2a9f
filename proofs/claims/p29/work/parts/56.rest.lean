/-! PURE, the calls: equity by trades, hours, evenings, what is counted; the first state -/
theorem x_gain {σ τ : St} (hQ : IQ σ τ) (hbQ : BQ τ) {m t p : Nat} (hp : p < 3) (e42 : gI σ 42 t 0 = nI p) (hx : 1 ≤ (gI σ 44 t 0).toInt ∧ (gI σ 44 t 0).toInt ≤ 9999) : fX5_gainOf σ (nI m) t = some (sg σ m t * (gI τ 1 0 p).toInt64 - jbf σ m t) := by
  have hb := hbQ p hp
  unfold fX5_gainOf
  rw [e42, if_gd (vin_nI hp (by omega)), clamp_nI (show p < 2147483648 by omega), (hQ p hp).1, kst_d, wid_sub (by omega) (by omega)]
  unfold jbf sg sgv
  by_cases c1 : gI σ 40 t 0 = nI m
  · rw [if_neg (not_not_intro c1), if_pos c1]
    congr 1
    grind
  · rw [if_pos c1, if_neg c1]
    by_cases c2 : gI σ 41 t 0 = nI m
    · rw [if_neg (not_not_intro c2), if_pos c2]
      congr 1
      grind
    · rw [if_pos c2, if_neg c2]
      congr 1
      grind
def byT (σ τ : St) (m t : Nat) : Int64 := (gL σ 2 m 0 + (((gI τ 1 0 0).toInt64 * sn (jaf σ m 0) t + (gI τ 1 0 1).toInt64 * sn (jaf σ m 1) t) + (gI τ 1 0 2).toInt64 * sn (jaf σ m 2) t)) - sn (jbf σ m) t
theorem by_L {σ τ : St} (hQ : IQ σ τ) (hbQ : BQ τ) (hN : IN σ) (hE : JE σ) {m : Nat} : ∀ (n t : Nat) (v : Int64), t ≤ gN σ 1 → gN σ 1 - t < n → v = byT σ τ m t → fX5_equityByTrades_L17 n σ (nI t) v (nI m) = some (.inr (Int64.toInt32 (byT σ τ m (gN σ 1)), σ), 0, 0) := by
  have h8 := hN.2.2.2.2.2.2.2
  intro n
  induction n with
  | zero => intro t v _ h; omega
  | succ n ih =>
    intro t v ht hn hv
    rw [fX5_equityByTrades_L17.eq_2]
    by_cases e : t = gN σ 1
    · rw [if_pos ((nI_leI (by omega) (by omega)).mpr (Nat.le_of_eq e.symm)), hv, e]
    · have hlt : t < gN σ 1 := by omega
      obtain ⟨⟨p, hp, e42⟩, hx⟩ := hE t hlt
      rw [if_neg (fun q => by have := (nI_leI (by omega) (by omega)).mp q; omega), if_gd (vin_nI hlt (by omega)), if_gd (lok_of1 hN), clamp_nI (show t < 2147483648 by omega), x_gain hQ hbQ hp e42 hx, bd_some, kst_d, kst_d, nI_1]
      refine ih (t + 1) _ (by omega) (by omega) ?_
      rw [hv]
      have j : ∀ p', p' < 3 → sn (jaf σ m p') (t + 1) = sn (jaf σ m p') t + if p = p' then sg σ m t else 0 := fun p' hp' => by
        show sn (jaf σ m p') t + jaf σ m p' t = _
        unfold jaf
        rw [e42]
        by_cases c : p = p'
        · rw [if_pos (by rw [c]), if_pos c]
        · rw [if_neg (fun q => c ((nI_eq (by omega) (by omega)).mp q)), if_neg c]
      have jb : sn (jbf σ m) (t + 1) = sn (jbf σ m) t + jbf σ m t := rfl
      unfold byT
      rw [j 0 (by omega), j 1 (by omega), j 2 (by omega), jb]
      rcases (show p = 0 ∨ p = 1 ∨ p = 2 by omega) with rfl | rfl | rfl
      · rw [if_pos rfl, if_neg (by omega), if_neg (by omega)]; grind
      · rw [if_neg (by omega), if_pos rfl, if_neg (by omega)]; grind
      · rw [if_neg (by omega), if_neg (by omega), if_pos rfl]; grind
theorem c_equityByTrades {n : Nat} {σ τ : St} (h : INV n σ τ) (a : Int32) : STEP P1 n σ (fX5_equityByTrades σ a) (fX6_equityByTrades τ a) := by
  unfold fX5_equityByTrades fX6_equityByTrades
  rcases member_c a with ⟨m, hm, rfl, e1, e2⟩ | ⟨e1, e2⟩
  · have hJ := h.1.2.2.1
    have hN := G_IN h.1
    have h8 := hN.2.2.2.2.2.2.2
    have hl := by_L (G_IQ h.1) (G_BQ h.1) hN hJ.1 (m := m) 60000 0 (gL σ 2 m 0) (by omega) (by omega) (by
      unfold byT
      show _ = (_ + ((_ * 0 + _ * 0) + _ * 0)) - 0
      grind)
    have hl : fX5_equityByTrades_L17 60000 σ 0 (gL σ 2 m 0) (nI m) = _ := hl
    rw [e1, e2, xb_r, bd_some, asks1, bd_some, if_neg h10, if_gd (vin_nI hm (by omega)), clamp_nI (show m < 2147483648 by omega), kst_d, hl, y_eq hm, bd_some]
    refine STEP_ok (INV_next (INV_t h 0)) rfl (Nat.le_refl _) (congrArg Int64.toInt32 ?_)
    obtain ⟨j1, j2⟩ := hJ.2 m hm
    have a0 := j1 0 (by omega)
    have a1 := j1 1 (by omega)
    have a2 := j1 2 (by omega)
    obtain ⟨p0, q0⟩ := (G_IP h.1) m hm 0 (by omega)
    obtain ⟨p1, q1⟩ := (G_IP h.1) m hm 1 (by omega)
    obtain ⟨p2, q2⟩ := (G_IP h.1) m hm 2 (by omega)
    have c0 := ((G_IA h.1) m hm).1
    rw [p0] at a0
    rw [p1] at a1
    rw [p2] at a2
    rw [q0, q1, q2, c0] at j2
    show byT σ τ m (gN σ 1) = sEq τ m
    unfold byT sEq sDif
    have b0 : sn (jaf σ m 0) (gN σ 1) = (gI τ 4 0 (3 * m + 0)).toInt64 := a0.symm
    have b1 : sn (jaf σ m 1) (gN σ 1) = (gI τ 4 0 (3 * m + 1)).toInt64 := a1.symm
    have b2 : sn (jaf σ m 2) (gN σ 1) = (gI τ 4 0 (3 * m + 2)).toInt64 := a2.symm
    have b3 : sn (jbf σ m) (gN σ 1) = JB σ m := rfl
    rw [b0, b1, b2, b3]
    generalize (gI τ 4 0 (3 * m + 0)).toInt64 = P0
    generalize (gI τ 4 0 (3 * m + 1)).toInt64 = P1
    generalize (gI τ 4 0 (3 * m + 2)).toInt64 = P2
    generalize (gI τ 1 0 0).toInt64 = X0
    generalize (gI τ 1 0 1).toInt64 = X1
    generalize (gI τ 1 0 2).toInt64 = X2
    generalize gL τ 6 0 m = c at j2 ⊢
    generalize gL τ 5 0 (3 * m + 0) = d0 at j2 ⊢
    generalize gL τ 5 0 (3 * m + 1) = d1 at j2 ⊢
    generalize gL τ 5 0 (3 * m + 2) = d2 at j2 ⊢
    generalize gL σ 2 m 0 = o at j2 ⊢
    generalize JB σ m = B at j2 ⊢
    clear a0 a1 a2 b0 b1 b2 b3 p0 p1 p2 q0 q1 q2 c0 hl j1
    grind
  · rw [e1, e2, xb_l, bd_some, asks0, bd_some, if_pos rfl]
    exact STEP_no h p11 0
def THo (τ : St) (r : Int32) (τ' : St) : Prop := ∃ t1 t2 t3 t4 f1 f2 f3 f4, HH 0 0 f1 (pI τ 23 0 0 0) t1 ∧ HH 1 f1 f2 t1 t2 ∧ HH 2 f2 f3 t2 t3 ∧ HH 3 f3 f4 t3 t4 ∧ HH 4 f4 r t4 τ' ∧ tn τ' = tn τ
theorem c_hour {n : Nat} (hn : n < 512) {σ τ : St} (h : INV n σ τ) : ∃ r σ' τ' mc ms, fX5_hour σ = some ((r, σ'), mc, ms) ∧ fX6_hour τ = some (r, τ') ∧ INV (n + 1) σ' τ' ∧ THo τ r τ' ∧ mc + pot σ ≤ pot σ' + 100 ∧ ms + pot σ ≤ pot σ' + 100 := by
  have h100 := (G_BO h.1).2.1
  have hc : (0 : Int) ≤ 100000 * n ∧ (100000 * n : Int) ≤ 60000000 := ⟨by omega, by omega⟩
  have i0 : HI (100000 * n) ((tn τ : Int) + 30 * n) σ (pI τ 23 0 0 0) := h
  obtain ⟨s1, t1, f1, m1, n1, x1, y1, i1, a1, b1, w1, p1, q1⟩ := hour_S (by omega) hc i0 (i := 0) (by omega) 999 999 0
  obtain ⟨s2, t2, f2, m2, n2, x2, y2, i2, a2, b2, w2, p2, q2⟩ := hour_S (by omega) hc i1 (i := 1) (by omega) 998 998 f1
  obtain ⟨s3, t3, f3, m3, n3, x3, y3, i3, a3, b3, w3, p3, q3⟩ := hour_S (by omega) hc i2 (i := 2) (by omega) 997 997 f2
  obtain ⟨s4, t4, f4, m4, n4, x4, y4, i4, a4, b4, w4, p4, q4⟩ := hour_S (by omega) hc i3 (i := 3) (by omega) 996 996 f3
  obtain ⟨s5, t5, f5, m5, n5, x5, y5, i5, a5, b5, w5, p5, q5⟩ := hour_S (by omega) hc i4 (i := 4) (by omega) 995 995 f4
  have xE : fX5_hour_L4 995 s5 (nI 5) f5 = some ((f5, s5), 0, 0) := by
    show fX5_hour_L4 (994 + 1) _ _ _ = _
    rw [fX5_hour_L4.eq_2, if_pos (show (5 : Int32) ≤ nI 5 by decide)]
  have yE : fX6_hour_L9 995 t5 (nI 5) f5 = some (f5, t5) := by
    show fX6_hour_L9 (994 + 1) _ _ _ = _
    rw [fX6_hour_L9.eq_2, if_pos (show (5 : Int32) ≤ nI 5 by decide)]
  have hx : fX5_hour σ = tk m1 n1 (tk m2 n2 (tk m3 n3 (tk m4 n4 (tk m5 n5 (some ((f5, s5), 0, 0)))))) := by
    unfold fX5_hour
    exact x1.trans (congrArg (tk m1 n1) (x2.trans (congrArg (tk m2 n2) (x3.trans (congrArg (tk m3 n3) (x4.trans (congrArg (tk m4 n4) (x5.trans (congrArg (tk m5 n5) xE)))))))))
  have hy : fX6_hour τ = some (f5, t5) := by
    unfold fX6_hour
    exact y1.trans (y2.trans (y3.trans (y4.trans (y5.trans yE))))
  rw [tk_some, tk_some, tk_some, tk_some, tk_some] at hx
  have h21 : gI t5 21 0 0 = gI τ 21 0 0 := b5.trans (b4.trans (b3.trans (b2.trans b1)))
  have ht : tn t5 = tn τ := by unfold tn; rw [h21]
  refine ⟨f5, s5, t5, _, _, hx, hy, ⟨G_mono i5.1 (by rw [ht]; omega), i5.2.1, i5.2.2.1, BS_mono i5.2.2.2 (by omega)⟩, ⟨t1, t2, t3, t4, f1, f2, f3, f4, w1, w2, w3, w4, w5, ht⟩, by omega, by omega⟩
theorem eve_S {B : Int} {σ τ : St} (h : G B σ τ) {i : Nat} (hi : i < 5) (n n2 : Nat) (v : Int64) : fX5_evening_L4 (n + 1) σ (nI i) v = fX5_evening_L4 n (neS σ τ i) (nI (i + 1)) (v + chS τ i) ∧ fX6_evening_L9 (n2 + 1) τ (nI i) v = fX6_evening_L9 n2 (neT τ i) (nI (i + 1)) (v + chS τ i) := by
  have hge : ¬ (5 : Int32) ≤ nI i := nI_ge (a := i) (b := 5) hi (by omega)
  constructor
  · rw [fX5_evening_L4.eq_2, if_neg hge, if_gd (vin_nI hi (by omega)), clamp_nI (show i < 2147483648 by omega), x_net (G_IP h) (G_IQ h) hi, bd_some, kst_d, kst_d, nI_1]
  · rw [fX6_evening_L9.eq_2, if_neg hge, y_net hi, bd_some, kst_d, kst_d, nI_1]
theorem c_evening {n : Nat} {σ τ : St} (h : INV n σ τ) : ∃ r σ' τ', fX5_evening σ = some (r, σ') ∧ fX6_evening τ = some (r, τ') ∧ INV (n + 1) σ' τ' ∧ τ' = neT (neT (neT (neT (neT (pI τ 23 0 0 0) 0) 1) 2) 3) 4 ∧ pot σ ≤ pot σ' ∧ sameN σ' σ := by
  have g0 : G ((tn τ : Int) + 30 * n) σ (pI τ 23 0 0 0) := h.1
  have f0 : FF σ τ σ (pI τ 23 0 0 0) → True := fun _ => trivial
  obtain ⟨t0, ht0⟩ : ∃ t0, t0 = pI τ 23 0 0 0 := ⟨_, rfl⟩
  rw [← ht0] at g0
  have g1 := G_net g0 (m := 0) (by omega)
  have g2 := G_net g1 (m := 1) (by omega)
  have g3 := G_net g2 (m := 2) (by omega)
  have g4 := G_net g3 (m := 3) (by omega)
  have g5 := G_net g4 (m := 4) (by omega)
  have ff := FF_tr (FF_tr (FF_tr (FF_net σ t0 0) (FF_net _ _ 1)) (FF_tr (FF_net _ _ 2) (FF_net _ _ 3))) (FF_net _ _ 4)
  obtain ⟨x1, y1⟩ := eve_S g0 (i := 0) (by omega) 999 999 0
  obtain ⟨x2, y2⟩ := eve_S g1 (i := 1) (by omega) 998 998 (0 + chS t0 0)
  obtain ⟨x3, y3⟩ := eve_S g2 (i := 2) (by omega) 997 997 (0 + chS t0 0 + chS (neT t0 0) 1)
  obtain ⟨x4, y4⟩ := eve_S g3 (i := 3) (by omega) 996 996 (0 + chS t0 0 + chS (neT t0 0) 1 + chS (neT (neT t0 0) 1) 2)
  obtain ⟨x5, y5⟩ := eve_S g4 (i := 4) (by omega) 995 995 (0 + chS t0 0 + chS (neT t0 0) 1 + chS (neT (neT t0 0) 1) 2 + chS (neT (neT (neT t0 0) 1) 2) 3)
  have hL : ∀ (s : St) (v : Int64), fX5_evening_L4 995 s (nI 5) v = some (Int64.toInt32 v, s) := fun s v => by
    show fX5_evening_L4 (994 + 1) _ _ _ = _
    rw [fX5_evening_L4.eq_2, if_pos (show (5 : Int32) ≤ nI 5 by decide)]
  have hM : ∀ (s : St) (v : Int64), fX6_evening_L9 995 s (nI 5) v = some (Int64.toInt32 v, s) := fun s v => by
    show fX6_evening_L9 (994 + 1) _ _ _ = _
    rw [fX6_evening_L9.eq_2, if_pos (show (5 : Int32) ≤ nI 5 by decide)]
  have hx : fX5_evening σ = _ := (x1.trans x2).trans ((x3.trans x4).trans (x5.trans (hL _ _)))
  have hy : fX6_evening_L9 1000 t0 0 0 = _ := (y1.trans y2).trans ((y3.trans y4).trans (y5.trans (hM _ _)))
  have hz : fX6_evening τ = fX6_evening_L9 1000 t0 0 0 := by unfold fX6_evening; rw [← ht0]
  refine ⟨_, _, _, hx, hz.trans hy, ?_⟩
  · have e9 : ∀ m, gI t0 9 0 m = gI τ 9 0 m := fun m => by rw [ht0]; rfl
    have e10 : ∀ m, gI t0 10 0 m = gI τ 10 0 m := fun m => by rw [ht0]; rfl
    have e8 : ∀ m, gL t0 8 0 m = gL τ 8 0 m := fun m => by rw [ht0]; rfl
    have e21 : gI t0 21 0 0 = gI τ 21 0 0 := by rw [ht0]; rfl
    exact ⟨INV_of h g5 (fun m => ff.2.1 m) (fun m => (ff.1.1.2.1 m).trans (e9 m)) (fun m => (ff.1.1.1 m).trans (e10 m)) (fun m => (ff.1.1.2.2.1 m).trans (e8 m)) (ff.1.1.2.2.2.2.1.trans e21), by rw [ht0], Nat.le_of_eq (pot_same (sameN_tr (sameN_tr (sameN_tr (sameN_tr (ne_n σ t0 0) (ne_n _ _ 1)) (ne_n _ _ 2)) (ne_n _ _ 3)) (ne_n _ _ 4))).symm, sameN_tr (sameN_tr (sameN_tr (sameN_tr (ne_n σ t0 0) (ne_n _ _ 1)) (ne_n _ _ 2)) (ne_n _ _ 3)) (ne_n _ _ 4)⟩
theorem c_trades {n : Nat} {σ τ : St} (h : INV n σ τ) : ∃ r τ', fX5_trades σ = some r ∧ fX6_trades τ = some (r, τ') ∧ INV (n + 1) σ τ' := by
  refine ⟨gI σ 20 0 0, pI τ 23 0 0 0, rfl, ?_, INV_next (INV_t h 0)⟩
  unfold fX6_trades
  rw [show gI (pI τ 23 0 0 0) 22 0 0 = gI τ 22 0 0 from rfl, (h.1.1.2.2.2.2.2.2.1).1]
theorem c_unpaid {n : Nat} {σ τ : St} (h : INV n σ τ) : ∃ r τ', fX5_unpaid σ = some r ∧ fX6_unpaid τ = some (r, τ') ∧ INV (n + 1) σ τ' := by
  refine ⟨Int64.toInt32 (gL σ 20 0 0), pI τ 23 0 0 0, rfl, ?_, INV_next (INV_t h 0)⟩
  unfold fX6_unpaid
  rw [show gL (pI τ 23 0 0 0) 20 0 0 = gL τ 20 0 0 from rfl, (h.1.1.2.2.2.2.2.2.1).2]
-- the first state
def sig0 : St := (fun f _ _ => if f = 1 then -1 else if f = 2 then 100 else if f = 6 then 10 else if f = 11 then 100 else 0, fun _ _ _ => 0, fun _ => 0)
theorem sm_zero {f : Nat → Int} {n : Nat} (h : ∀ k, k < n → f k = 0) : sm f n = 0 := by
  induction n with
  | zero => rfl
  | succ n ih => rw [sm, ih (fun k hk => h k (by omega)), h n (by omega)]; rfl
theorem INV_0 : INV 0 sig0 tau0 := by
  have tz : tn tau0 = 0 := by decide
  have hHR : HR 100 100 100 100 100 0 0 0 := ⟨rfl, by decide, by decide, Or.inr ⟨rfl, rfl, rfl⟩, Or.inr ⟨rfl, rfl, Or.inl rfl⟩, Or.inr ⟨rfl, rfl, Or.inl rfl⟩⟩
  refine ⟨⟨⟨fun m hm => ⟨rfl, rfl, rfl⟩, fun m hm k hk => rfl, fun m hm p hp => ⟨rfl, rfl⟩, fun p hp => ⟨rfl, rfl, fun v hv => rfl⟩, ⟨tz.symm, fun k hk => by rw [tz] at hk; omega⟩, fun k hk => ?_, ⟨rfl, rfl⟩, by unfold IN; decide, ⟨by rw [tz]; decide, by rw [tz]; decide, fun k hk => by rw [tz] at hk; omega⟩, fun p hp => ⟨?_, ?_, Or.inl rfl, fun v hv => ?_⟩, ?_⟩, by unfold IC; decide, ⟨fun t ht => absurd ht (Nat.not_lt_zero t), fun m hm => ⟨fun p hp => ?_, ?_⟩⟩, ?_, 0, Nat.zero_le _, by decide⟩, fun m hm => rfl, fun j hj => ⟨Or.inl rfl, Or.inl rfl⟩, fun j hj _ => ⟨by show (0 : Int) ≤ (0 : Int64).toInt; decide, by show (0 : Int64).toInt ≤ _; decide⟩⟩
  · rcases (show k = 0 ∨ k = 1 by omega) with rfl | rfl
    · exact ⟨by decide +kernel, hHR⟩
    · exact ⟨by decide +kernel, hHR⟩
  · show (1 : Int) ≤ (100 : Int32).toInt; decide
  · show (100 : Int32).toInt ≤ (9999 : Int); decide
  · show -500 ≤ (0 : Int32).toInt ∧ (0 : Int32).toInt ≤ 500; decide
  · unfold BP
    rw [tz, sm_zero (n := 15) (fun k _ => by show ((0 : Int32).toInt.natAbs : Int) = 0; decide)]
    decide
  · show (0 : Int32).toInt64 = 0; decide
  · show (0 : Int64) - ((0 + 0) + 0) = 0 - 0; decide
  · show ((0 : Nat) : Int) + op tau0 ≤ _
    have := op_b tau0
    rw [tz] at this ⊢
    omega
