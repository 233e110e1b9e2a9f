/-! PURE: places -/
theorem sh_p : ∀ p, p < 3 → ∀ s, s < 2 → ((2 * nI p) + nI s) >>> (1 &&& 31) = nI p ∧ (if ¬ ((((2 * nI p) + nI s) &&& 1) = 1) then (0 : Int32) else 1) = nI s := by decide +kernel
theorem sh_l : ∀ l, l < 301 → ∀ q, q < 61 → (((256 * nI l) + nI q) + 1) >>> (8 &&& 31) = nI l ∧ ((((256 * nI l) + nI q) + 1) &&& 255) - 1 = nI q := by decide +kernel
theorem tI_I {v : Int64} (h1 : -2147483648 ≤ v.toInt) (h2 : v.toInt < 2147483648) : (tI v).toInt = v.toInt := by
  unfold tI
  rw [Int32.toInt_toInt64, toI_i h1 h2]
theorem sum5 {f : Nat → Int64} (h : ∀ k, k < 5 → -2147483648 ≤ (f k).toInt ∧ (f k).toInt < 2147483648) : (((((0 + tI (f 0)) + tI (f 1)) + tI (f 2)) + tI (f 3)) + tI (f 4)).toInt = sm (fun k => (f k).toInt) 5 := by
  have a0 := h 0 (by omega)
  have a1 := h 1 (by omega)
  have a2 := h 2 (by omega)
  have a3 := h 3 (by omega)
  have a4 := h 4 (by omega)
  rw [sm5, Int64.zero_add]
  have e1 := add64 (tI_I a0.1 a0.2) (tI_I a1.1 a1.2) (by omega) (by omega)
  have e2 := add64 e1 (tI_I a2.1 a2.2) (by omega) (by omega)
  have e3 := add64 e2 (tI_I a3.1 a3.2) (by omega) (by omega)
  exact add64 e3 (tI_I a4.1 a4.2) (by omega) (by omega)
theorem eqs_I {K : Int} {τ : St} (hK : MG K τ) (hl : 0 ≤ sm (lf τ) (tn τ)) : (eqs τ).toInt = sE τ := by
  have hb := PSI_b hK hl
  have h1 := hK.1
  exact sum5 (f := sEq τ) (fun k hk => by have := (hb k hk).1; unfold eqI at this; omega)
theorem shs_I {K : Int} {τ : St} (hK : MG K τ) (hl : 0 ≤ sm (lf τ) (tn τ)) : (shs τ).toInt = sm (shI τ) 5 := by
  have hb := PSI_b hK hl
  have h1 := hK.1
  exact sum5 (f := fun k => gL τ 8 0 k) (fun k hk => by have := (hb k hk).2.2.2; unfold shI at this; omega)
/-- over a step of trades alone the equities together stay -/
theorem sE_of {K : Int} {τ τ' : St} (hs : SM τ τ') (hM : MN τ τ') (hK : MG K τ) : MG K τ' ∧ sE τ' = sE τ := by
  obtain ⟨h1, h2, -, -⟩ := hM K hK
  refine ⟨h1, ?_⟩
  unfold CQ at h2
  rw [SM_un hs, sm5, sm5] at h2
  simp only [SM_co hs, SM_sh hs] at h2
  unfold sE
  rw [sm5, sm5]
  omega
theorem MG_place {K : Int} {τ : St} (hO : BO τ) {m p : Nat} {b l q : Int32} (hl : l.toInt ≤ 400) (hq : 1 ≤ q.toInt ∧ q.toInt ≤ 100) (hK : MG K τ) (hK2 : K + 9000000 ≤ 2000000000) : MG (K + 9000000) (plT (pI τ 23 0 0 0) m p b l q) ∧ sE (plT (pI τ 23 0 0 0) m p b l q) = sE τ := by
  have hO1 : BO (pI τ 23 0 0 0) := hO
  have htn : tn (plT (pI τ 23 0 0 0) m p b l q) = tn τ + 1 := plT_tn hO1 m p b l q
  have hnew := plT_new (pI τ 23 0 0 0) m p b l q
  have hold : ∀ {f k : Nat}, f ≠ 21 → k ≠ tn τ → f ≠ 23 → gI (plT (pI τ 23 0 0 0) m p b l q) f 0 k = gI τ f 0 k := fun h1 h2 h3 => by
    rw [plT_old (pI τ 23 0 0 0) m p b l q h1 h2, gI_pI, if_neg (fun z => h3 z.1)]
  have hlf : ∀ k, lf (plT (pI τ 23 0 0 0) m p b l q) k = if k = tn τ then q.toInt else lf τ k := fun k => by
    unfold lf
    by_cases c : k = tn τ
    · rw [if_pos c, c]
      exact congrArg Int32.toInt hnew.2.2.2.2
    · rw [if_neg c, hold (by decide) c (by decide)]
  have hsum : sm (lf (plT (pI τ 23 0 0 0) m p b l q)) (tn τ + 1) = sm (lf τ) (tn τ) + q.toInt := by
    show sm (lf (plT (pI τ 23 0 0 0) m p b l q)) (tn τ) + lf (plT (pI τ 23 0 0 0) m p b l q) (tn τ) = _
    rw [sm_congr (g := lf τ) (fun k hk => by rw [hlf, if_neg (by omega)]), hlf, if_pos rfl]
  refine ⟨?_, rfl⟩
  obtain ⟨h1, h2, h3, h4, h5, h6, h7, h8⟩ := hK
  refine ⟨hK2, h2, fun k hk => ?_, h4, h5, h6, h7, ?_⟩
  · rw [htn] at hk
    by_cases c : k = tn τ
    · rw [c, show gI (plT (pI τ 23 0 0 0) m p b l q) 14 0 (tn τ) = l from hnew.2.2.2.1]; exact hl
    · rw [hold (by decide) c (by decide)]; exact h3 k (by omega)
  · have e : PSI (plT (pI τ 23 0 0 0) m p b l q) = sm (fun m => ((eqI τ m).natAbs : Int) + coI τ m + shI τ m) 5 + unI τ + 800 * sm (lf (plT (pI τ 23 0 0 0) m p b l q)) (tn (plT (pI τ 23 0 0 0) m p b l q)) := rfl
    rw [e, htn, hsum]
    unfold PSI at h8
    omega
theorem best_none {n : Nat} {σ τ : St} (h : INV n σ τ) {p : Nat} {b : Int32} (e : fX6_bestOf τ (nI p) b = some (enc none)) : ¬ ∃ j, opn τ p b j := by
  rintro ⟨j, hj⟩
  have hO := G_BO h.1
  have h100 := hO.2.1
  have key : ∀ (f k : Nat) (o : Option Nat), k ≤ tn τ → tn τ - k < f → (∀ i, o = some i → i < 100) → (o = none → k ≤ j) → ∃ i, i < 100 ∧ fX6_bestOf_L5 τ f (nI k) (enc o) (nI p) b = some (nI i) := by
    intro f
    induction f with
    | zero => intro k o _ h; omega
    | succ f ih =>
      intro k o hk hf ho hv
      rw [fX6_bestOf_L5.eq_2, hO.1]
      by_cases ek : k = tn τ
      · rw [if_pos ((nI_leI (by omega) (by omega)).mpr (by omega))]
        cases o with
        | none =>
          have h1 := hv rfl
          have h2 := hj.1
          omega
        | some i => exact ⟨i, ho i rfl, rfl⟩
      · have hlt : k < tn τ := by omega
        rw [if_neg (fun q => by have := (nI_leI (a := tn τ) (b := k) (by omega) (by omega)).mp q; omega), if_gd (vin_nI (show k < 100 by omega) (by omega))]
        simp only [kst, nI_1, clamp_nI (show k < 2147483648 by omega)]
        have hstay : k ≠ j → ∃ i, i < 100 ∧ fX6_bestOf_L5 τ f (nI (k + 1)) (enc o) (nI p) b = some (nI i) := fun hne => ih (k + 1) o (by omega) (by omega) ho (fun q => by have := hv q; omega)
        have hstay2 : o ≠ none → ∃ i, i < 100 ∧ fX6_bestOf_L5 τ f (nI (k + 1)) (enc o) (nI p) b = some (nI i) := fun hne => ih (k + 1) o (by omega) (by omega) ho (fun q => absurd q hne)
        have htake : ∃ i, i < 100 ∧ fX6_bestOf_L5 τ f (nI (k + 1)) (enc (some k)) (nI p) b = some (nI i) := ih (k + 1) (some k) (by omega) (by omega) (fun i q => by cases q; omega) (fun q => nomatch q)
        by_cases c1 : gI τ 12 0 k = nI p
        · rw [if_neg (not_not_intro c1)]
          by_cases c2 : gI τ 13 0 k = b
          · rw [if_neg (not_not_intro c2)]
            by_cases c3 : gI τ 15 0 k ≤ 0
            · rw [if_pos c3]
              refine hstay (fun q => ?_)
              have h1 := lf_le0.mp c3
              have h2 := hj.2.2.2
              rw [← q] at h2
              omega
            · rw [if_neg c3]
              cases o with
              | none =>
                rw [show enc none = -1 from rfl, if_pos rfl]
                exact htake
              | some i =>
                have hi := ho i rfl
                have hs := hstay2 (fun q => nomatch q)
                rw [show enc (some i) = nI i from rfl] at hs
                rw [show enc (some k) = nI k from rfl] at htake
                rw [show enc (some i) = nI i from rfl, if_neg (nI_ne1 (by omega)), if_gd (vin_nI hi (by omega)), if_gd (vin_nI hi (by omega))]
                by_cases c4 : b = 0
                · rw [if_pos c4]
                  split
                  · exact hs
                  · exact htake
                · rw [if_neg c4]
                  split
                  · exact hs
                  · exact htake
          · rw [if_pos c2]
            exact hstay (fun q => c2 (by rw [q]; exact hj.2.2.1))
        · rw [if_pos c1]
          exact hstay (fun q => c1 (by rw [q]; exact hj.2.1))
  obtain ⟨i, hi, e9⟩ := key 1000 0 none (by omega) (by omega) (fun i q => nomatch q) (fun _ => by omega)
  have e8 := e.symm.trans e9
  exact nI_ne1 (k := i) (by omega) (Option.some.inj e8).symm
/-- a step of the law that may have placed an order -/
def SDP (K : Int) (n c N : Nat) (q : Int32 × St × St) (a b : Nat) : Prop := q.1 = 1 ∧ ∃ τ', HV K n c q.2.1 q.2.2 τ' a b ∧ N ≤ tn τ' ∧ tn τ' ≤ N + 1
section PLC
variable {K : Int} {n c N a b : Nat} {σ1 σ2 s1 s2 τ τ' : St}
theorem J327 (i1 : INV (n + 1) s1 τ') (i2 : INV (n + 1) s2 τ') (hG : MG (K + 9000000) τ') (hN : tn τ' = N + 1) {p : Nat} (hp : p < 3) {s : Nat} (hs : s < 2) (h12 : gI τ' 12 0 N = nI p) (h13 : gI τ' 13 0 N = nI s) (ha : a ≤ pot s1 + pot s2 + (c + 600)) (hb : b ≤ pot s1 + pot s2 + (c + 600)) : LQ (fL_places_J327 s1 s2 (nI p) (nI N) (gI τ' 15 0 N) 1) a b (SDP (K + 9000000) (n + 3) (c + 1200) N) := by
  obtain ⟨c1, l1, e1⟩ := E_best1 i1 hp
  obtain ⟨c0, l0, e0⟩ := E_best0 i1 hp
  unfold fL_places_J327
  refine LQ_bt e1 (LQ_bt e0 ?_)
  refine LQ_ifn (show ¬ (1 : Int32) = 0 by decide) ?_
  have hfin : LQ (some (((1 : Int32), s1, s2), 0, 0)) (a + c1 + c0) (b + 6 * c1 + 6 * c0) (SDP (K + 9000000) (n + 3) (c + 1200) N) := by
    refine LQ_ok ⟨rfl, τ', ⟨INV_le i1 (by omega), INV_le i2 (by omega), hG, ?_, ?_⟩, ?_, ?_⟩
    · have hx : a + c1 + c0 ≤ pot s1 + pot s2 + (c + 1200) := by omega
      exact hx
    · have hx : b + 6 * c1 + 6 * c0 ≤ pot s1 + pot s2 + (c + 1200) := by omega
      exact hx
    · rw [hN]; exact Nat.le_succ N
    · rw [hN]; exact Nat.le_refl _
  by_cases z : gI τ' 15 0 N = 0
  · exact LQ_if z hfin
  refine LQ_ifn z ?_
  have hl := lf_ge (G_BO i1.1) (show N < tn τ' by omega)
  have hlp : 0 < lf τ' N := by
    have : ¬ lf τ' N = 0 := fun e => z ((eq32 (A := lf τ' N) (b := 0) (B := 0) rfl (by decide)).mpr e)
    omega
  have h100 := (G_BO i1.1).2.1
  have key : ∀ sd : Int32, gI τ' 13 0 N = sd → 0 ≤ bV τ' p sd := fun sd hsd => by
    obtain ⟨o, b1, b2, b3⟩ := best_of (G_IO i1.1) (G_IN i1.1) (G_BO i1.1) p sd
    cases o with
    | none =>
      exact absurd ⟨N, ⟨by omega, h12, hsd, hlp⟩⟩ (best_none i1 b2)
    | some j =>
      have hj := (b3 j rfl).1
      have eb : bV τ' p sd = nI j := by
        unfold bV
        rw [b2]
        exact if_neg (fun q => nI_ne1 (k := j) (by omega) (Option.some.inj q))
      rw [eb]
      exact (le32 (a := 0) (A := 0) (by decide) (nI_toInt (show j < 2147483648 by omega))).mpr (by omega)
  by_cases z1 : bV τ' p 1 = nI N
  · exact LQ_if z1 hfin
  refine LQ_ifn z1 ?_
  by_cases z2 : bV τ' p 0 = nI N
  · exact LQ_if z2 hfin
  refine LQ_ifn z2 ?_
  by_cases z3 : 0 ≤ bV τ' p 1
  · exact LQ_if z3 hfin
  refine LQ_ifn z3 ?_
  rcases (show s = 0 ∨ s = 1 by omega) with rfl | rfl
  · have h0 := key 0 h13
    exact LQ_ifn (fun q => absurd (lt_nle.mp q) (not_not_intro h0)) hfin
  · exact absurd (key 1 h13) z3
end PLC
