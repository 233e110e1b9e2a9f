/-! PURE: the law's body, behind a step -/
def LWQ (q : Int32 × St × St) (a b : Nat) : Prop := q.1 = 1 ∧ a ≤ 600000 ∧ b ≤ 600000
def KP (k : St → St → Int32 → Int32 → Int32 → Option ((Int32 × St × St) × Nat × Nat)) (i : Nat) : Prop := ∀ (N : Nat) (σ1 σ2 τ : St) (a b : Nat), HV (9000000 * ((i + 1 : Nat) : Int)) (3 * (i + 1)) (300 + 1600 * (i + 1)) σ1 σ2 τ a b → tn τ = N → LQ (k σ1 σ2 (nI N) 1 (nI (i + 1))) a b LWQ
section STEPS
variable {L : Nat} {xs : Nat → Int32} {k : St → St → Int32 → Int32 → Int32 → Option ((Int32 × St × St) × Nat × Nat)} {i N a b : Nat} {σ1 σ2 τ : St}
theorem HV_c {K K' : Int} {n n' c c' : Nat} (h : HV K n c σ1 σ2 τ a b) (hK : K = K') (hn : n = n') (hc : c ≤ c') : HV K' n' c' σ1 σ2 τ a b := by
  subst hK
  subst hn
  obtain ⟨h1, h2, hG, ha, hb⟩ := h
  exact ⟨h1, h2, hG, by omega, by omega⟩
theorem L_489 (hk : KP k i) (h : HV (9000000 * ((i + 1 : Nat) : Int)) (3 * (i + 1)) (300 + 1600 * (i + 1)) σ1 σ2 τ a b) (hN : tn τ = N) (v : Int32) : LQ (fL_law_J489 L xs k σ1 σ2 (nI N) v (nI i) 1) a b LWQ := by
  unfold fL_law_J489
  refine LQ_kst ?_
  rw [nI_1]
  exact hk N σ1 σ2 τ a b h hN
set_option maxRecDepth 20000 in
theorem L_442 (hk : KP k i) (h : HV (9000000 * ((i + 1 : Nat) : Int)) (3 * (i + 1)) (300 + 1600 * i + 1300) σ1 σ2 τ a b) (hN : tn τ = N) : LQ (fL_law_J442 L xs k σ1 σ2 (nI N) 1 (nI i)) a b LWQ := by
  obtain ⟨h1, h2, hG, ha, hb⟩ := h
  subst hN
  have hfin : ∀ (s1 s2 : St) (a' b' : Nat), INV (3 * (i + 1)) s1 τ → INV (3 * (i + 1)) s2 τ → a' ≤ pot s1 + pot s2 + (300 + 1600 * i + 1600) → b' ≤ pot s1 + pot s2 + (300 + 1600 * i + 1600) → LQ (fL_law_J489 L xs k s1 s2 (nI (tn τ)) 1 (nI i) 1) a' b' LWQ := fun s1 s2 a' b' i1 i2 q1 q2 => L_489 hk ⟨i1, i2, hG, by omega, by omega⟩ rfl 1
  have href : ∀ (s1 s2 : St) (a' b' : Nat), INV (3 * (i + 1)) s1 τ → INV (3 * (i + 1)) s2 τ → a' ≤ pot s1 + pot s2 + (300 + 1600 * i + 1372) → b' ≤ pot s1 + pot s2 + (300 + 1600 * i + 1372) → LQ (bt2 (fL_refused s1 (nI (tn τ))) (fun q => if q.1 = 0 then fL_law_J489 L xs k q.2 s2 (nI (tn τ)) 1 (nI i) 0 else fL_law_J489 L xs k q.2 s2 (nI (tn τ)) 1 (nI i) 1)) a' b' LWQ := fun s1 s2 a' b' i1 i2 q1 q2 => by
    obtain ⟨s', d, l, sc, e⟩ := L_refused i1
    have p := pot_scr sc
    refine LQ_bt e (LQ_ifn (show ¬ (1 : Int32) = 0 by decide) ?_)
    exact hfin s' s2 _ _ (INV_scr sc i1) i2 (by omega) (by omega)
  unfold fL_law_J442
  refine LQ_ifn (show ¬ (1 : Int32) = 0 by decide) ?_
  by_cases c1 : 0 < (nI i - nI i / 4 * 4)
  · refine LQ_if c1 ?_
    by_cases c2 : 0 < (nI i - nI i / 24 * 24)
    · exact LQ_if c2 (hfin σ1 σ2 _ _ h1 h2 (by omega) (by omega))
    · exact LQ_ifn c2 (href σ1 σ2 _ _ h1 h2 (by omega) (by omega))
  · refine LQ_ifn c1 ?_
    obtain ⟨s3, d3, l3, sc3, e3⟩ := L_all h1
    obtain ⟨s4, d4, l4, sc4, e4⟩ := L_all h2
    have p3 := pot_scr sc3
    have p4 := pot_scr sc4
    refine LQ_bt e3 (LQ_bt e4 (LQ_ifn (not_not_intro rfl) ?_))
    by_cases c2 : 0 < (nI i - nI i / 24 * 24)
    · exact LQ_if c2 (hfin s3 s4 _ _ (INV_scr sc3 h1) (INV_scr sc4 h2) (by omega) (by omega))
    · exact LQ_ifn c2 (href s3 s4 _ _ (INV_scr sc3 h1) (INV_scr sc4 h2) (by omega) (by omega))
theorem L_sdn (hk : KP k i) {q : Int32 × St × St} (h : SDN (9000000 * (i : Int) + 9000000) (3 * i + 3) (300 + 1600 * i + 1200) N q a b) : LQ (fL_law_J442 L xs k q.2.1 q.2.2 (nI N) q.1 (nI i)) a b LWQ := by
  obtain ⟨e, τ', hv, hN⟩ := h
  rw [e]
  exact L_442 hk (HV_c hv (by omega) (by omega) (by omega)) hN
set_option maxRecDepth 20000 in
theorem L_sdp (hk : KP k i) {q : Int32 × St × St} (h : SDP (9000000 * (i : Int) + 9000000) (3 * i + 3) (300 + 1600 * i + 1200) N q a b) : LQ (if q.1 = 0 then fL_law_J177 L xs k q.2.1 q.2.2 (nI N) q.1 (nI i) 0 (nI N) else bt2 (fL_call q.2.1 9 (nI N) 0 0) (fun q230 => if q230.1 < 0 then fL_law_J177 L xs k q230.2 q.2.2 (nI N) q.1 (nI i) 0 (nI N) else fL_law_J177 L xs k q230.2 q.2.2 (nI N) q.1 (nI i) 1 (nI N))) a b LWQ := by
  obtain ⟨z, s1, s2⟩ := q
  obtain ⟨e, τ', hv, hN1, hN2⟩ := h
  have e : z = 1 := e
  subst e
  have hv : HV (9000000 * (i : Int) + 9000000) (3 * i + 3) (300 + 1600 * i + 1200) s1 s2 τ' a b := hv
  have hv := HV_c (K' := 9000000 * ((i + 1 : Nat) : Int)) (n' := 3 * (i + 1)) (c' := 300 + 1600 * i + 1206) hv (by omega) (by omega) (by omega)
  obtain ⟨i1, i2, hG, ha, hb⟩ := hv
  refine LQ_ifn (show ¬ (1 : Int32) = 0 by decide) ?_
  rcases (show tn τ' = N ∨ tn τ' = N + 1 by omega) with eN | eN
  · have e9 := E_left i1
    rw [eN] at e9
    refine LQ_bt e9 (LQ_if (show (-2000000001 : Int32) < 0 by decide) ?_)
    unfold fL_law_J177
    refine LQ_kst ?_
    rw [Int32.add_zero]
    have hA : a + 1 ≤ pot s1 + pot s2 + (300 + 1600 * i + 1300) := by omega
    have hB : b + 6 ≤ pot s1 + pot s2 + (300 + 1600 * i + 1300) := by omega
    exact L_442 hk ⟨i1, i2, hG, hA, hB⟩ eN
  · have e9 : fL_call s1 9 (nI N) 0 0 = some ((gI τ' 15 0 N, s1), 0, 0) := call_in (by rw [does_left]; exact A_left i1 (by omega))
    have hl := lf_ge (G_BO i1.1) (show N < tn τ' by omega)
    refine LQ_b0 e9 (LQ_ifn (fun q => by have := (lt32 (a := gI τ' 15 0 N) (A := lf τ' N) (b := 0) (B := 0) rfl (by decide)).mp q; omega) ?_)
    unfold fL_law_J177
    refine LQ_kst ?_
    rw [nI_1]
    have hA : a ≤ pot s1 + pot s2 + (300 + 1600 * i + 1300) := by omega
    have hB : b ≤ pot s1 + pot s2 + (300 + 1600 * i + 1300) := by omega
    exact L_442 hk ⟨i1, i2, hG, hA, hB⟩ eN
end STEPS
