/-! PURE: the law's loop -/
theorem pot_b {n : Nat} {σ τ : St} (h : INV n σ τ) (hn : n ≤ 360) : pot σ ≤ 180000 := by
  have h100 := (G_BO h.1).2.1
  have hop := (op_b τ).1
  obtain ⟨n1, n2, n3, n4, n5, n6, n7, n8⟩ := G_IN h.1
  have hB := h.1.2.2.2.1
  unfold pot
  omega
section LOOP
variable {L : Nat} {xs : Nat → Int32}
set_option maxRecDepth 20000 in
set_option maxHeartbeats 4000000 in
theorem L_loop : ∀ (d i f : Nat), i + d = 120 → d < f → ∀ (N : Nat) (σ1 σ2 τ : St) (a b : Nat), HV (9000000 * (i : Int)) (3 * i) (300 + 1600 * i) σ1 σ2 τ a b → tn τ = N → LQ (fL_law_L50 L xs f σ1 σ2 (nI N) 1 (nI i)) a b LWQ := by
  intro d
  induction d with
  | zero =>
    intro i f hi hf N σ1 σ2 τ a b h hN
    obtain ⟨f, rfl⟩ : ∃ g, f = g + 1 := ⟨f - 1, by omega⟩
    have hi : i = 120 := by omega
    subst hi
    obtain ⟨h1, h2, hG, ha, hb⟩ := h
    subst hN
    rw [fL_law_L50.eq_2]
    refine LQ_if (show (120 : Int32) ≤ nI 120 by decide) (LQ_ifn (show ¬ (1 : Int32) = 0 by decide) ?_)
    obtain ⟨s3, d3, l3, sc3, e3⟩ := L_all h1
    obtain ⟨s4, d4, l4, sc4, e4⟩ := L_all h2
    have p1 := pot_b h1 (by omega)
    have p2 := pot_b h2 (by omega)
    refine LQ_bt e3 (LQ_bt e4 (LQ_ifn (not_not_intro rfl) (LQ_ok ⟨rfl, ?_, ?_⟩)))
    · omega
    · omega
  | succ d ih =>
    intro i f hi hf N σ1 σ2 τ a b h hN
    obtain ⟨f, rfl⟩ : ∃ g, f = g + 1 := ⟨f - 1, by omega⟩
    have hi2 : i < 120 := by omega
    have hk : KP (fL_law_L50 L xs f) i := fun N σ1 σ2 τ a b h hN => ih (i + 1) f (by omega) (by omega) N σ1 σ2 τ a b h hN
    have hK2 : 9000000 * (i : Int) + 9000000 ≤ 2000000000 := by omega
    have hn : 3 * i < 512 := by omega
    have h100 := (G_BO h.1.1).2.1
    rw [fL_law_L50.eq_2]
    have hiI := nI_toInt (n := i) (by omega)
    refine LQ_ifn (show ¬ (120 : Int32) ≤ nI i from nI_ge (a := i) (b := 120) hi2 (by omega)) (LQ_ifn (show ¬ (1 : Int32) = 0 by decide) ?_)
    have e2 : (2 * nI i).toInt = 2 * (i : Int) := mul32 (A := 2) (by decide) hiI (by omega) (by omega)
    have e3 : (2 * nI i + 1).toInt = 2 * (i : Int) + 1 := add32 e2 (B := 1) (by decide) (by omega) (by omega)
    refine LQ_gd (fun q => by have := (lt32 e2 (b := 0) (B := 0) (by decide)).mp q; omega) (LQ_kst (LQ_gd (fun q => by have := (lt32 e3 (b := 0) (B := 0) (by decide)).mp q; omega) (LQ_kst ?_)))
    generalize cellV L xs (2 * nI i) = x39
    generalize cellV L xs (2 * nI i + 1) = x46
    obtain ⟨w, hw, ew⟩ := some_of σ1 x39 20 (by omega) (by omega)
    have ew : fL_some σ1 x39 20 = some (nI w) := ew
    refine LQ_bd ew ?_
    have hHour : LQ (bt2 (fL_hour σ1 σ2) (fun q => fL_law_J442 L xs (fL_law_L50 L xs f) q.2.1 q.2.2 (nI N) q.1 (nI i))) a b LWQ := LQ_seq (L_hour hK2 hn h hN) (fun q a b hq => L_sdn hk hq)
    have hEve : LQ (bt2 (fL_evening σ1 σ2) (fun q => fL_law_J442 L xs (fL_law_L50 L xs f) q.2.1 q.2.2 (nI N) q.1 (nI i))) a b LWQ := LQ_seq (L_evening hK2 h hN) (fun q a b hq => L_sdn hk hq)
    have hHalt : LQ (bd (fL_some σ1 x46 4) (fun q => if ¬ q = 0 then fL_law_J319 L xs (fL_law_L50 L xs f) σ1 σ2 (nI N) 1 (nI i) x46 0 else fL_law_J319 L xs (fL_law_L50 L xs f) σ1 σ2 (nI N) 1 (nI i) x46 1)) a b LWQ := by
      obtain ⟨v, hv, ev⟩ := some_of σ1 x46 4 (by omega) (by omega)
      have ev : fL_some σ1 x46 4 = some (nI v) := ev
      refine LQ_bd ev ?_
      by_cases c : ¬ nI v = 0
      · exact LQ_if c (L_319_0 hk hi2 h hN x46)
      · exact LQ_ifn c (L_319_1 hk hi2 h hN x46)
    have hCan : LQ (bd (fL_some σ1 x46 (nI N + 1)) (fun q => if ¬ q = nI N then yb (fX5_left σ1 q) (fun q2 => fL_law_J215 L xs (fL_law_L50 L xs f) q2.2 σ2 (nI N) 1 (nI i) q q2.1) else fL_law_J215 L xs (fL_law_L50 L xs f) σ1 σ2 (nI N) 1 (nI i) q 0)) a b LWQ := by
      obtain ⟨v, hv, ev⟩ := some_of σ1 x46 (N + 1) (by omega) (by omega)
      rw [nI_1]
      refine LQ_bd ev ?_
      by_cases c : v = N
      · refine LQ_ifn (not_not_intro (by rw [c])) ?_
        exact L_215 hk hi2 h hN (by omega) (fun q => by omega)
      · refine LQ_if (fun q => c ((nI_eq (a := v) (b := N) (by omega) (by omega)).mp q)) (LQ_y0 (A_left h.1 (k := v) (by omega)) ?_)
        exact L_215 hk hi2 h hN (by omega) (fun _ => rfl)
    by_cases c4 : 4 ≤ nI w
    · refine LQ_if c4 ?_
      by_cases c7 : 7 ≤ nI w
      · refine LQ_if c7 ?_
        have hRest : LQ (if 14 ≤ nI w then if 15 ≤ nI w then if 16 ≤ nI w then bt2 (fL_hour σ1 σ2) (fun q => fL_law_J442 L xs (fL_law_L50 L xs f) q.2.1 q.2.2 (nI N) q.1 (nI i)) else bt2 (fL_evening σ1 σ2) (fun q => fL_law_J442 L xs (fL_law_L50 L xs f) q.2.1 q.2.2 (nI N) q.1 (nI i)) else bd (fL_some σ1 x46 4) (fun q => if ¬ q = 0 then fL_law_J319 L xs (fL_law_L50 L xs f) σ1 σ2 (nI N) 1 (nI i) x46 0 else fL_law_J319 L xs (fL_law_L50 L xs f) σ1 σ2 (nI N) 1 (nI i) x46 1) else bd (fL_some σ1 x46 (nI N + 1)) (fun q => if ¬ q = nI N then yb (fX5_left σ1 q) (fun q2 => fL_law_J215 L xs (fL_law_L50 L xs f) q2.2 σ2 (nI N) 1 (nI i) q q2.1) else fL_law_J215 L xs (fL_law_L50 L xs f) σ1 σ2 (nI N) 1 (nI i) q 0)) a b LWQ := by
          by_cases c14 : 14 ≤ nI w
          · refine LQ_if c14 ?_
            by_cases c15 : 15 ≤ nI w
            · refine LQ_if c15 ?_
              by_cases c16 : 16 ≤ nI w
              · exact LQ_if c16 hHour
              · exact LQ_ifn c16 hEve
            · exact LQ_ifn c15 hHalt
          · exact LQ_ifn c14 hCan
        by_cases c13 : 13 ≤ nI w
        · exact LQ_if c13 hRest
        · refine LQ_ifn c13 ?_
          by_cases c90 : 90 ≤ nI N
          · exact LQ_if c90 hRest
          · refine LQ_ifn c90 ?_
            exact LQ_seq (L_places hK2 hn h hN x46) (fun q a b hq => L_sdp hk hq)
      · refine LQ_ifn c7 ?_
        exact LQ_seq (L_pays hK2 hn h hN x46) (fun q a b hq => L_sdn hk hq)
    · refine LQ_ifn c4 ?_
      exact LQ_seq (L_tells hK2 h hN x46) (fun q a b hq => L_sdn hk hq)
end LOOP
