/-! PURE: a member is closed out -/
theorem pI_self (σ : St) (f i j : Nat) : pI σ f i j (gI σ f i j) = σ := by
  refine Prod.ext ?_ rfl
  funext a b c
  show (if a = f ∧ b = i ∧ c = j then σ.1 f i j else σ.1 a b c) = σ.1 a b c
  split
  · rename_i h
    obtain ⟨rfl, rfl, rfl⟩ := h
    rfl
  · rfl
theorem can_L {B : Int} {m : Nat} (hm : m < 5) : ∀ (n n2 k : Nat) (σ τ : St), G B σ τ → k ≤ tn τ → tn τ - k < n → tn τ - k < n2 → (∀ j, j < k → 0 < lf τ j → gI τ 11 0 j ≠ nI m) →
    ∃ σ' τ' n3, fX5_cancelOrdersOf_L2 n σ (nI k) (nI m) = some σ' ∧ fX6_closesOut_L2 n2 τ (nI k) (nI m) = fX6_closesOut_L2 (n3 + 1) τ' (nI (tn τ')) (nI m) ∧ G B σ' τ' ∧ FF σ τ σ' τ' ∧ own0 τ' m ∧ sameN σ' σ ∧ pot σ' = pot σ ∧ ∀ j, gI τ' 4 0 j = gI τ 4 0 j := by
  intro n
  induction n with
  | zero => intro n2 k σ τ _ _ h; omega
  | succ n ih =>
    intro n2 k σ τ hG hk hn hn2 ho
    obtain ⟨n2, rfl⟩ : ∃ n9, n2 = n9 + 1 := ⟨n2 - 1, by omega⟩
    have hO := G_BO hG
    have hIO := G_IO hG
    have h100 := hO.2.1
    have hN := hIO.1
    by_cases e : k = tn τ
    · subst e
      refine ⟨σ, τ, n2, ?_, rfl, hG, FF_rfl σ τ, ho, ⟨rfl, rfl, rfl, rfl, rfl, rfl, rfl⟩, rfl, fun _ => rfl⟩
      rw [fX5_cancelOrdersOf_L2.eq_2, if_pos ((nI_leI (by omega) (by omega)).mpr (Nat.le_of_eq hN))]
    · have hlt : k < tn τ := by omega
      have hle : ¬ nI (tn τ) ≤ nI k := fun q => by have := (nI_leI (by omega) (by omega)).mp q; omega
      obtain ⟨-, k31, -, -, -, k35⟩ := hIO.2 k hlt
      rw [fX5_cancelOrdersOf_L2.eq_2, if_neg (show ¬ nI (gN σ 0) ≤ nI k by rw [hN]; exact hle), if_gd (vin_nI (show k < gN σ 0 by omega) (by omega)), if_gd (lok_of (G_IN hG)), clamp_nI (show k < 2147483648 by omega), k31]
      rw [fX6_closesOut_L2.eq_2, hO.1, if_neg hle, if_gd (vin_nI (show k < 100 by omega) (by omega)), clamp_nI (show k < 2147483648 by omega)]
      simp only [kst_d, nI_1]
      by_cases c : gI τ 11 0 k = nI m
      · rw [if_neg (not_not_intro c), if_neg (not_not_intro c)]
        have hl := lf_ge hO hlt
        have g1 := G_left hG hlt (v := 0) (by decide) (by show (0 : Int) ≤ _; omega)
        obtain ⟨σ', τ', n3, e1, e2, e3, e4, e5, e6, e7, e8⟩ := ih n2 (k + 1) _ _ g1 (by show k + 1 ≤ tn τ; omega) (by show tn τ - (k + 1) < n; omega) (by show tn τ - (k + 1) < n2; omega) (fun j hj hl => by
          rw [lf_pI] at hl
          by_cases cj : j = k
          · rw [if_pos cj] at hl; exact absurd hl (by decide)
          · rw [if_neg cj] at hl; exact ho j (by omega) hl)
        exact ⟨σ', τ', n3, e1, e2, e3, FF_tr (FF_left σ τ k 0 0 (MN_left hlt (by show (0 : Int) ≤ _; omega))) e4, e5, e6, e7, e8⟩
      · rw [if_pos c, if_pos c, pI_self]
        obtain ⟨σ', τ', n3, e1, e2, e3, e4, e5, e6, e7, e8⟩ := ih n2 (k + 1) _ _ hG (by omega) (by omega) (by omega) (fun j hj hl => by
          by_cases cj : j = k
          · rw [cj]; exact c
          · exact ho j (by omega) hl)
        exact ⟨σ', τ', n3, e1, e2, e3, e4, e5, e6, e7, e8⟩
theorem x_c0 {σ : St} {m p : Nat} (hm : m < 5) (hp : p < 3) (h : gI σ 4 m p = 0) : fX5_closePosition σ (nI m) (nI p) = some (σ, 0, 0) := by
  unfold fX5_closePosition
  rw [if_gd (vin_nI hm (by omega)), clamp_nI (show m < 2147483648 by omega)]
  exact x_cz (r := 0) hp 999 h _
set_option maxHeartbeats 1000000 in
theorem co_L {β : Type} {B : Int} (hB : B < 49990) {m : Nat} (hm : m < 5) {R : Nat → Int} (K : St → Int32 → Int32 → Option β) : ∀ (d i n n2 : Nat) (σ τ : St) (v : Int32), i + d = 3 → d < n → d < n2 → G (B + i) σ τ → own0 τ m → (∀ p, p < 3 → gI σ 19 0 (rk R p) = nI p) → (∀ p, p < 3 → (gI τ 17 0 p).toInt = R p) → (∀ p, p < 3 → (opp τ p ↔ (i ≤ rk R p ∧ ¬ gI τ 4 0 (3 * m + p) = 0))) → fX6_nextOpen τ = some v →
    ∃ σ' τ' v' mc ms, fX5_closeOut_L23 n σ (nI i) (nI m) = some (σ', mc, ms) ∧ fX6_closesOut_L96 K n2 τ v (nI m) = K τ' v' (nI m) ∧ G (B + 3) σ' τ' ∧ FR0 τ τ' ∧ (∀ m', gI σ' 1 m' 0 = gI σ 1 m' 0) ∧ mc + pot σ ≤ pot σ' ∧ ms + pot σ ≤ pot σ' := by
  intro d
  induction d with
  | zero =>
    intro i n n2 σ τ v hi hn hn2 hG ho hs hR hop hv
    obtain ⟨n, rfl⟩ : ∃ n9, n = n9 + 1 := ⟨n - 1, by omega⟩
    obtain ⟨n2, rfl⟩ : ∃ n9, n2 = n9 + 1 := ⟨n2 - 1, by omega⟩
    have hi : i = 3 := by omega
    subst hi
    have hv1 : v = -1 := Option.some.inj (hv.symm.trans (nx_none hR (fun p hp q => by
      have := ((hop p hp).mp q).1
      have := rk_3 R hp
      omega)))
    refine ⟨σ, τ, v, 0, 0, ?_, ?_, hG, FR0_rfl τ, fun _ => rfl, by omega, by omega⟩
    · rw [fX5_closeOut_L23.eq_2, if_pos (show (3 : Int32) ≤ nI 3 by decide)]
    · rw [fX6_closesOut_L96.eq_2, if_pos hv1]
  | succ d ih =>
    intro i n n2 σ τ v hi hn hn2 hG ho hs hR hop hv
    obtain ⟨n, rfl⟩ : ∃ n9, n = n9 + 1 := ⟨n - 1, by omega⟩
    obtain ⟨n2, rfl⟩ : ∃ n9, n2 = n9 + 1 := ⟨n2 - 1, by omega⟩
    obtain ⟨σ1, f1, f2⟩ := x_free hG.1 hm
    have hG1 := G_scr f2 hG
    rw [fX5_closeOut_L23.eq_2, if_neg (show ¬ (3 : Int32) ≤ nI i from nI_ge (a := i) (b := 3) (by omega) (by omega)), f1, bd_some, if_gd (scr_same f2)]
    by_cases c : 0 ≤ sFree τ m
    · rw [if_pos c]
      refine ⟨σ1, τ, v, 0, 0, rfl, ?_, G_mono hG1 (by omega), FR0_rfl τ, fun _ => scr_gI f2 .., by rw [pot_scr f2]; omega, by rw [pot_scr f2]; omega⟩
      rw [fX6_closesOut_L96.eq_2]
      by_cases cv : v = -1
      · rw [if_pos cv]
      · rw [if_neg cv, y_free hG.1 hm, bd_some, if_pos c]
    · obtain ⟨p, hp, hpi⟩ := rk_ex R (i := i) (by omega)
      have e19 : gI σ1 19 0 i = nI p := by rw [scr_gI f2, ← hpi]; exact hs p hp
      rw [if_neg c, if_gd (vin_nI (show i < 3 by omega) (by omega)), clamp_nI (show i < 2147483648 by omega), e19]
      have e4 := ((G_IP hG1) m hm p hp).1
      by_cases z : gI τ 4 0 (3 * m + p) = 0
      · rw [x_c0 hm hp (e4.trans z), bt2_some, kst_d, nI_1]
        obtain ⟨σ', τ', v', mc, ms, e1, e2, e3, e5, e6, e7, e8⟩ := ih (i + 1) n (n2 + 1) σ1 τ v (by omega) (by omega) (by omega) (G_mono hG1 (by omega)) ho (fun q hq => (scr_gI f2 ..).trans (hs q hq)) hR (fun q hq => by
          rw [hop q hq]
          constructor
          · rintro ⟨h1, h2⟩
            refine ⟨?_, h2⟩
            by_cases e : rk R q = i
            · have : q = p := rk_inj hq hp (e.trans hpi.symm)
              subst this
              exact absurd z h2
            · omega
          · rintro ⟨h1, h2⟩
            exact ⟨by omega, h2⟩) hv
        refine ⟨σ', τ', v', 0 + mc, 0 + ms, by rw [e1, tk_some], e2, e3, e5, fun m' => (e6 m').trans (scr_gI f2 ..), ?_, ?_⟩
        · rw [pot_scr f2] at e7; omega
        · rw [pot_scr f2] at e8; omega
      · have hpo : opp τ p := (hop p hp).mpr ⟨by omega, z⟩
        have hv1 : v = nI p := Option.some.inj (hv.symm.trans (nx_some hR hp hpo (fun q hq hqo => by
          have := ((hop q hq).mp hqo).1
          omega)))
        subst hv1
        obtain ⟨σ2, τ2, mc, ms, a1, a2, g2, ff, o2, a3, a4, a5⟩ := close_of (B := B + i) (by omega) hm hp hG1 ho
        rw [a1, bt2_some, kst_d, nI_1]
        have hR3 : ∀ q, q < 3 → (gI (pI τ2 18 0 p 0) 17 0 q).toInt = R q := fun q hq => by
          show (gI τ2 17 0 q).toInt = R q
          rw [ff.1.2.1 q]
          exact hR q hq
        obtain ⟨v2, hv2, -⟩ := nx_of (τ := pI τ2 18 0 p 0) hR3
        obtain ⟨σ', τ', v', mc', ms', e1, e2, e3, e5, e6, e7, e8⟩ := ih (i + 1) n n2 σ2 (pI τ2 18 0 p 0) v2 (by omega) (by omega) (by omega) (G_mono (show G (B + i + 1) σ2 (pI τ2 18 0 p 0) from g2) (by omega)) o2 (fun q hq => (ff.2.2.1 _).trans ((scr_gI f2 ..).trans (hs q hq))) hR3 (fun q hq => by
          have hz : gI (pI τ2 18 0 p 0) 18 0 q = if q = p then 0 else gI τ 18 0 q := by
            rw [gI_pI]
            simp only [true_and]
            by_cases e : q = p
            · rw [if_pos e, if_pos e]
            · rw [if_neg e, if_neg e]
              exact ff.1.2.2 q
          by_cases e : q = p
          · subst e
            constructor
            · intro h
              exact absurd (show gI (pI τ2 18 0 q 0) 18 0 q = 0 by rw [hz, if_pos rfl]) h
            · rintro ⟨h1, -⟩
              omega
          · have hz2 : opp (pI τ2 18 0 p 0) q ↔ opp τ q := by
              unfold opp
              rw [hz, if_neg e]
            have hne : rk R q ≠ i := fun h => e (rk_inj hq hp (h.trans hpi.symm))
            rw [hz2, hop q hq, show gI (pI τ2 18 0 p 0) 4 0 (3 * m + q) = gI τ2 4 0 (3 * m + q) from rfl, a3 q hq e]
            constructor
            · rintro ⟨h1, h2⟩; exact ⟨by omega, h2⟩
            · rintro ⟨h1, h2⟩; exact ⟨by omega, h2⟩) hv2
        refine ⟨σ', τ', v', mc + mc', ms + ms', by rw [e1, tk_some], ?_, e3, FR0_tr ff.1.1 e5, fun m' => (e6 m').trans ((ff.2.1 m').trans (scr_gI f2 ..)), ?_, ?_⟩
        · rw [fX6_closesOut_L96.eq_2, if_neg (nI_ne1 (by omega)), y_free hG.1 hm, bd_some, if_neg c, a2, bd_some, if_gd (vin_nI hp (by omega)), clamp_nI (show p < 2147483648 by omega), hv2, bd_some, e2]
        · rw [pot_scr f2] at a4; omega
        · rw [pot_scr f2] at a5; omega
def opW (τ : St) (m p : Nat) (r : Int32) : St := pI (pI τ 18 0 p (if gI τ 4 0 (3 * m + p) = 0 then 0 else 1)) 17 0 p r
theorem y_opS {β : Type} {τ : St} (hO : BO τ) (hP : BP τ) (hQ : BQ τ) (K : St → Int32 → Int32 → Option β) {m p : Nat} (hm : m < 5) (hp : p < 3) (n : Nat) : ∃ r, r.toInt = sRisk τ m p ∧ fX6_closesOut_L44 K (n + 1) τ (nI p) (nI m) = fX6_closesOut_L44 K n (opW τ m p r) (nI (p + 1)) (nI m) := by
  rw [fX6_closesOut_L44.eq_2, if_neg (show ¬ (3 : Int32) ≤ nI p from nI_ge (a := p) (b := 3) hp (by omega)), if_gd (ix3 m hm p hp).2, (ix3 m hm p hp).1, if_gd (vin_nI hp (by omega)), if_gd (vin_nI hp (by omega)), clamp_nI (show p < 2147483648 by omega)]
  simp only [kst_d, nI_1]
  unfold opW
  by_cases c : gI τ 4 0 (3 * m + p) = 0
  · rw [if_pos c, if_pos c]
    obtain ⟨r, e, t⟩ := y_risk (τ := pI τ 18 0 p 0) hO hP hQ hm hp
    exact ⟨r, t, by rw [e, bd_some]⟩
  · rw [if_neg c, if_neg c]
    obtain ⟨r, e, t⟩ := y_risk (τ := pI τ 18 0 p 1) hO hP hQ hm hp
    exact ⟨r, t, by rw [e, bd_some]⟩
set_option maxHeartbeats 1000000 in
theorem co_of {B : Int} (hB : B < 49990) {m : Nat} (hm : m < 5) {σ τ : St} (hG : G B σ τ) : ∃ σ' τ' mc ms r, fX5_closeOut σ (nI m) = some (σ', mc, ms) ∧ fX6_closesOut τ (nI m) = some (r, τ') ∧ G (B + 3) σ' τ' ∧ FR0 (pI τ 9 0 m (-1)) τ' ∧ (∀ m', gI σ' 1 m' 0 = gI (pI σ 1 m 0 (-1)) 1 m' 0) ∧ ((r = 0 ∧ 0 ≤ sFree τ' m) ∨ (r = 1 ∧ ¬ 0 ≤ sFree τ' m)) ∧ mc + pot σ ≤ pot σ' + 1 ∧ ms + pot σ ≤ pot σ' + 3 := by
  have h100 := (G_BO hG).2.1
  obtain ⟨s1, t1, n3, a1, a2, a3, a4, a5, a6, a7, a8⟩ := can_L hm 1000 1000 0 (pI σ 1 m 0 (-1)) τ hG (by omega) (by omega) (by omega) (fun j hj => by omega)
  have hO := G_BO a3
  have hP := G_BP a3
  have hQ := G_BQ a3
  have ha1 : fX5_cancelOrdersOf (pI σ 1 m 0 (-1)) (nI m) = some s1 := a1
  -- the reference: what is open, and the risks
  have hK2 : ∃ K2 : St → Int32 → Int32 → Option (Int32 × St), K2 = (fun (s21 : St) (_ y23 : Int32) => gd (vin y23 5) (bd (fX6_freeOf (pI s21 9 0 y23.toNatClampNeg (-1)) y23) (fun q25 => if 0 ≤ q25 then some ((0, pI s21 9 0 y23.toNatClampNeg (-1))) else some ((1, pI s21 9 0 y23.toNatClampNeg (-1)))))) := ⟨_, rfl⟩
  obtain ⟨K2, hK2⟩ := hK2
  have hK1 : ∃ K1 : St → Int32 → Int32 → Option (Int32 × St), K1 = (fun (s11 : St) (_ y13 : Int32) => bd (fX6_nextOpen s11) (fun q14 => fX6_closesOut_L96 K2 1000 s11 q14 y13)) := ⟨_, rfl⟩
  obtain ⟨K1, hK1⟩ := hK1
  obtain ⟨r0, u0, v0⟩ := y_opS hO hP hQ K1 hm (p := 0) (by omega) 999
  obtain ⟨r1, u1, v1⟩ := y_opS (τ := opW t1 m 0 r0) hO hP hQ K1 hm (p := 1) (by omega) 998
  obtain ⟨r2, u2, v2⟩ := y_opS (τ := opW (opW t1 m 0 r0) m 1 r1) hO hP hQ K1 hm (p := 2) (by omega) 997
  obtain ⟨t2, ht2⟩ : ∃ t2, t2 = opW (opW (opW t1 m 0 r0) m 1 r1) m 2 r2 := ⟨_, rfl⟩
  have hy : fX6_closesOut τ (nI m) = K1 t2 (nI 3) (nI m) := by
    have z1 : fX6_closesOut_L2 (n3 + 1) t1 (nI (tn t1)) (nI m) = fX6_closesOut_L44 K1 1000 t1 0 (nI m) := by
      rw [fX6_closesOut_L2.eq_2, hO.1, if_pos ((nI_leI (by have := hO.2.1; omega) (by have := hO.2.1; omega)).mpr (Nat.le_refl _)), hK1, hK2]
    refine Eq.trans (show fX6_closesOut τ (nI m) = fX6_closesOut_L2 1000 τ (nI 0) (nI m) from rfl) (a2.trans (z1.trans ?_))
    refine (v0.trans v1).trans (v2.trans ?_)
    rw [ht2]
    show fX6_closesOut_L44 K1 (996 + 1) _ _ _ = _
    rw [fX6_closesOut_L44.eq_2, if_pos (show (3 : Int32) ≤ nI 3 by decide)]
  have hG2 : G B (ordS (sRisk t1 m) s1) t2 := by rw [ht2]; exact a3
  have e17 : ∀ p, p < 3 → (gI t2 17 0 p).toInt = sRisk t1 m p := fun p hp => by
    rw [ht2]
    rcases (show p = 0 ∨ p = 1 ∨ p = 2 by omega) with rfl | rfl | rfl
    · exact u0
    · exact u1
    · exact u2
  have e18 : ∀ p, p < 3 → gI t2 18 0 p = if gI t1 4 0 (3 * m + p) = 0 then 0 else 1 := fun p hp => by
    rw [ht2]
    rcases (show p = 0 ∨ p = 1 ∨ p = 2 by omega) with rfl | rfl | rfl <;> rfl
  have e4 : ∀ j, gI t2 4 0 j = gI t1 4 0 j := fun j => by rw [ht2]; rfl
  obtain ⟨v, hv, -⟩ := nx_of e17
  obtain ⟨σ', t3, v', mc, ms, b1, b2, b3, b4, b5, b6, b7⟩ := co_L hB hm K2 3 0 1000 1000 (ordS (sRisk t1 m) s1) t2 v (by omega) (by omega) (by omega) (by simpa using hG2) (show own0 t2 m by rw [ht2]; exact a5) (fun p hp => ordS_at _ _ hp) e17 (fun p hp => by
    unfold opp
    rw [e18 p hp, e4]
    constructor
    · intro h
      refine ⟨Nat.zero_le _, fun z => ?_⟩
      rw [if_pos z] at h
      exact h rfl
    · rintro ⟨-, h⟩
      rw [if_neg h]
      decide) hv
  have hG3 : G (B + 3) σ' (pI t3 9 0 m (-1)) := b3
  have hfr : FR0 (pI τ 9 0 m (-1)) (pI t3 9 0 m (-1)) := by
    have f1 := a4.1.1
    have f2 : FR0 t1 t2 := by rw [ht2]; exact FR0_rfl t1
    have f3 := FR0_tr (FR0_tr f1 f2) b4
    refine ⟨f3.1, fun m' => ?_, f3.2.2.1, f3.2.2.2.1, f3.2.2.2.2⟩
    rw [gI_pI, gI_pI, f3.2.1 m']
  have hx : fX5_closeOut σ (nI m) = some (σ', 1 + mc, 3 + ms) := by
    unfold fX5_closeOut
    rw [if_gd (vin_nI hm (by omega)), clamp_nI (show m < 2147483648 by omega), ha1, bd_some, if_gd a6, x_order (G_IP a3) (G_IQ a3) hO hP hQ hm, bt2_some, if_gd (show gN (ordS (sRisk t1 m) s1) 4 = 1 from rfl)]
    show tk 1 3 (fX5_closeOut_L23 1000 (ordS (sRisk t1 m) s1) (nI 0) (nI m)) = _
    rw [b1, tk_some]
  have hpot : pot (ordS (sRisk t1 m) s1) = pot σ := a7
  rw [hpot] at b6 b7
  have h1 : ∀ m', gI σ' 1 m' 0 = gI (pI σ 1 m 0 (-1)) 1 m' 0 := fun m' => (b5 m').trans (a4.2.1 m')
  have hcl : fX6_closesOut τ (nI m) = bd (fX6_freeOf (pI t3 9 0 m (-1)) (nI m)) (fun q25 => if 0 ≤ q25 then some ((0, pI t3 9 0 m (-1))) else some ((1, pI t3 9 0 m (-1)))) := by
    have hk1 : K1 t2 (nI 3) (nI m) = fX6_closesOut_L96 K2 1000 t2 v (nI m) := by rw [hK1]; show bd (fX6_nextOpen t2) _ = _; rw [hv, bd_some]
    rw [hy, hk1, b2, hK2]
    show gd (vin (nI m) 5) _ = _
    rw [if_gd (vin_nI hm (by omega)), clamp_nI (show m < 2147483648 by omega)]
  rw [y_free hG3.1 hm, bd_some] at hcl
  by_cases c : 0 ≤ sFree (pI t3 9 0 m (-1)) m
  · rw [if_pos c] at hcl
    exact ⟨σ', _, _, _, 0, hx, hcl, hG3, hfr, h1, Or.inl ⟨rfl, c⟩, by omega, by omega⟩
  · rw [if_neg c] at hcl
    exact ⟨σ', _, _, _, 1, hx, hcl, hG3, hfr, h1, Or.inr ⟨rfl, c⟩, by omega, by omega⟩
