/-! PURE: the rounds of an order -/
theorem oc_none {α β : Type} (a : β) (b : α → β) : oc (none : Option α) a b = a := rfl
theorem oc_some {α β : Type} (k : α) (a : β) (b : α → β) : oc (some k) a b = b k := rfl
theorem x_meet0 {σ : St} {i k : Nat} (h : gI σ 33 i 0 = 0) : fX5_meet σ i k = some (if gI σ 34 k 0 < gI σ 34 i 0 then 0 else 1) := by
  unfold fX5_meet
  rw [if_pos h]
  split <;> rfl
theorem x_meet1 {σ : St} {i k : Nat} (h : ¬ gI σ 33 i 0 = 0) : fX5_meet σ i k = some (if gI σ 34 i 0 < gI σ 34 k 0 then 0 else 1) := by
  unfold fX5_meet
  rw [if_neg h]
  split <;> rfl
theorem lt_nle {a b : Int32} : a < b ↔ ¬ b ≤ a := by rw [Int32.lt_iff_toInt_lt, Int32.le_iff_toInt_le]; omega
theorem mq_x {σ τ : St} {i k : Nat} (ei : gI σ 35 i 0 = gI τ 15 0 i) (ek : gI σ 35 k 0 = gI τ 15 0 k) : (if gI σ 35 k 0 < gI σ 35 i 0 then gI σ 35 k 0 else gI σ 35 i 0) = mq τ i k := by
  unfold mq
  rw [ei, ek]
  by_cases c : gI τ 15 0 i ≤ gI τ 15 0 k
  · rw [if_pos c, if_neg (fun q => lt_nle.mp q c)]
  · rw [if_neg c, if_pos (lt_nle.mpr c)]
theorem FF_mT (σ τ : St) (i k b s p : Nat) (q : Int32) (hM : MN τ (mT τ i k b s p)) : FF σ τ (mS σ i k b s p q) (mT τ i k b s p) :=
  ⟨⟨⟨fun _ => rfl, fun _ => rfl, fun _ => rfl, rfl, rfl, SM_tr (SM_tr (SM_left τ k _) (SM_left _ i _)) (SM_trade _ b s p _ _), hM⟩, fun _ => rfl, fun _ => rfl⟩, fun _ => rfl, fun _ => rfl, rfl⟩
/-- what the rounds of an order leave of it, of its member's position, of the count of trades -/
def PLr (i p mi r : Nat) (τ τ' : St) : Prop := (gI τ 13 0 i = 1 → ps τ' (3 * mi + p) + lf τ' i = ps τ (3 * mi + p) + lf τ i) ∧ (gI τ 13 0 i = 0 → ps τ' (3 * mi + p) - lf τ' i = ps τ (3 * mi + p) - lf τ i) ∧ lf τ' i ≤ lf τ i ∧ ∃ t : Nat, t + r ≤ 100 ∧ gI τ' 22 0 0 = gI τ 22 0 0 + nI t ∧ (t = 0 ↔ lf τ' i = lf τ i)
theorem PL_rfl {i p mi r : Nat} (τ : St) (hr : r ≤ 100) : PLr i p mi r τ τ := ⟨fun _ => rfl, fun _ => rfl, Int.le_refl _, 0, by omega, by rw [nI_0, Int32.add_zero], by simp⟩
theorem PL_step {i p mi r : Nat} {τ τ1 τ' : St} {q : Int} (hq : 0 < q) (h13 : gI τ1 13 0 i = gI τ 13 0 i) (h1 : gI τ 13 0 i = 1 → ps τ1 (3 * mi + p) = ps τ (3 * mi + p) + q) (h0 : gI τ 13 0 i = 0 → ps τ1 (3 * mi + p) = ps τ (3 * mi + p) - q) (hl : lf τ1 i = lf τ i - q) (ht : gI τ1 22 0 0 = gI τ 22 0 0 + 1) (h : PLr i p mi (r + 1) τ1 τ') : PLr i p mi r τ τ' := by
  obtain ⟨a1, a2, a3, t, b1, b2, b3⟩ := h
  rw [h13] at a1 a2
  refine ⟨fun e => ?_, fun e => ?_, by omega, t + 1, by omega, ?_, ?_⟩
  · have := a1 e; have := h1 e; omega
  · have := a2 e; have := h0 e; omega
  · rw [b2, ht, ← nI_1]; grind
  · constructor
    · intro e; omega
    · intro e; omega
theorem PL_can {i p mi r : Nat} {τ τ1 τ' : St} (h13 : gI τ1 13 0 i = gI τ 13 0 i) (h1 : ps τ1 (3 * mi + p) = ps τ (3 * mi + p)) (hl : lf τ1 i = lf τ i) (ht : gI τ1 22 0 0 = gI τ 22 0 0) (h : PLr i p mi (r + 1) τ1 τ') : PLr i p mi r τ τ' := by
  obtain ⟨a1, a2, a3, t, b1, b2, b3⟩ := h
  rw [h13, h1, hl] at a1 a2
  rw [hl] at a3 b3
  rw [ht] at b2
  exact ⟨a1, a2, a3, t, by omega, b2, b3⟩
set_option maxHeartbeats 1000000 in
theorem match_L {B : Int} (hB : B < 50000) {i p mi : Nat} (hp : p < 3) (hmi : mi < 5) : ∀ (n n2 r : Nat) (σ τ : St), G B σ τ → i < tn τ → gI τ 12 0 i = nI p → gI τ 11 0 i = nI mi → r ≤ 100 → op τ + r ≤ 100 → 100 - r < n → 102 - r < n2 →
    ∃ σ' τ' mc ms, fX5_match_L2 n σ (nI r) i = some (σ', mc, ms) ∧ fX6_matches_L9 n2 τ 0 (nI p) (nI i) = some τ' ∧ G B σ' τ' ∧ FF σ τ σ' τ' ∧ PLr i p mi r τ τ' ∧ mc + pot σ ≤ pot σ' ∧ ms + pot σ ≤ pot σ' := by
  intro n
  induction n with
  | zero => intro n2 r σ τ _ _ _ _ _ _ h; omega
  | succ n ih =>
    intro n2 r σ τ hG hi h12 emi hr hop hn hn2
    obtain ⟨n2, rfl⟩ : ∃ n3, n2 = n3 + 2 := ⟨n2 - 2, by omega⟩
    have hO := G_BO hG
    have hIO := G_IO hG
    have h100 := hO.2.1
    obtain ⟨-, i31, i32, i33, i34, i35⟩ := hIO.2 i hi
    obtain ⟨-, -, bzi, -, -, -⟩ := hO.2.2 i hi
    rw [fX5_match_L2.eq_2]
    have hstop : ∀ (z : fX6_matches_L9 (n2 + 2) τ 0 (nI p) (nI i) = some τ), ∃ σ' τ' mc ms, (some (σ, 0, 0) : Option (St × Nat × Nat)) = some (σ', mc, ms) ∧ fX6_matches_L9 (n2 + 2) τ 0 (nI p) (nI i) = some τ' ∧ G B σ' τ' ∧ FF σ τ σ' τ' ∧ PLr i p mi r τ τ' ∧ mc + pot σ ≤ pot σ' ∧ ms + pot σ ≤ pot σ' := fun z => ⟨σ, τ, 0, 0, rfl, z, hG, FF_rfl σ τ, PL_rfl τ hr, by omega, by omega⟩
    by_cases c0 : lf τ i ≤ 0
    · have c1 : gI τ 15 0 i ≤ 0 := lf_le0.mpr c0
      rw [i35, if_pos c1, ite_self]
      exact hstop (y_mz (by omega) _ _ c1)
    · have c1 : ¬ gI τ 15 0 i ≤ 0 := mt lf_le0.mp c0
      have hp1 := op_pos hi (show 0 < lf τ i by omega)
      rw [if_neg (show ¬ (100 : Int32) ≤ nI r from nI_ge (a := r) (b := 100) (by omega) (by omega)), i35, if_neg c1, i33, i32, h12]
      -- what a round leaves
      have hgo : ∀ (k b s : Nat), k < tn τ → i ≠ k → 0 < lf τ k → b < 5 → s < 5 → b ≠ s → (gI τ 13 0 i = 1 → b = mi) → (gI τ 13 0 i = 0 → s = mi) → fX6_matches_L9 (n2 + 2) τ 0 (nI p) (nI i) = fX6_matches_L9 (n2 + 1) (mT τ i k b s p) 0 (nI p) (nI i) → (∀ s' mc ms, fX5_trade (pI (pI σ 35 i 0 (gI σ 35 i 0 - mq τ i k)) 35 k 0 (gI σ 35 k 0 - mq τ i k)) (nI b) (nI s) (nI p) (mq τ i k) (gI σ 34 k 0) = some (s', mc, ms) → fX5_tradeWithResting (pI σ 35 i 0 (gI τ 15 0 i - mq τ i k)) (gI σ 31 i 0) k (mq τ i k) = some (s', mc, ms)) →
          ∃ σ' τ' mc ms, bt2 (fX5_tradeWithResting (pI σ 35 i 0 (gI τ 15 0 i - mq τ i k)) (gI (pI σ 35 i 0 (gI τ 15 0 i - mq τ i k)) 31 i 0) k (mq τ i k)) (fun q => kst (nI r + 1) (fun x => fX5_match_L2 n q x i)) = some (σ', mc, ms) ∧ fX6_matches_L9 (n2 + 2) τ 0 (nI p) (nI i) = some τ' ∧ G B σ' τ' ∧ FF σ τ σ' τ' ∧ PLr i p mi r τ τ' ∧ mc + pot σ ≤ pot σ' ∧ ms + pot σ ≤ pot σ' := by
        intro k b s hk hik hlk hb hs hbs hr1 hr0 hy hx
        obtain ⟨g1, g2, gM, mc, ms, g3, g4, g5⟩ := m_step hG hB hi hk hik (by omega) hlk hb hs hp hbs
        have hx := hx _ _ _ g3
        have f1 := FF_mT σ τ i k b s p (mq τ i k) gM.1
        obtain ⟨σ', τ', mc', ms', e1, e2, e3, e4, eP, e5, e6⟩ := ih (n2 + 1) (r + 1) _ _ g1 hi h12 emi (by omega) (by omega) (by omega) (by omega)
        obtain ⟨-, q0, q1, q2, q3, w1, w2, w3⟩ := gM
        have hPL := PL_step (τ := τ) (τ1 := mT τ i k b s p) (q := (mq τ i k).toInt) (mi := mi) (p := p) (by rcases q3 with q3 | q3 <;> omega) rfl (fun e => by rw [← hr1 e]; exact w1) (fun e => by rw [← hr0 e]; exact w2) w3 rfl eP
        refine ⟨σ', τ', mc + mc', ms + ms', ?_, hy.trans e2, e3, FF_tr f1 e4, hPL, by omega, by omega⟩
        rw [show gI (pI σ 35 i 0 (gI τ 15 0 i - mq τ i k)) 31 i 0 = gI σ 31 i 0 from rfl, hx, bt2_some, kst_d, nI_1, e1, tk_some]
      have hcan : ∀ k, k < tn τ → i ≠ k → 0 < lf τ k → fX6_matches_L9 (n2 + 2) τ 0 (nI p) (nI i) = fX6_matches_L9 (n2 + 1) (pI τ 15 0 k 0) 0 (nI p) (nI i) → ∃ σ' τ' mc ms, kst (nI r + 1) (fun x => fX5_match_L2 n (pI σ 35 k 0 0) x i) = some (σ', mc, ms) ∧ fX6_matches_L9 (n2 + 2) τ 0 (nI p) (nI i) = some τ' ∧ G B σ' τ' ∧ FF σ τ σ' τ' ∧ PLr i p mi r τ τ' ∧ mc + pot σ ≤ pot σ' ∧ ms + pot σ ≤ pot σ' := by
        intro k hk hik hlk hy
        have g1 := G_left hG hk (v := 0) (by decide) (by show (0 : Int) ≤ _; omega)
        have o1 : op (pI τ 15 0 k 0) = op τ - 1 := by
          rw [op_pI hk, show oc1 τ k = 1 from if_pos hlk, if_neg (by decide)]
          omega
        obtain ⟨σ', τ', mc', ms', e1, e2, e3, e4, eP, e5, e6⟩ := ih (n2 + 1) (r + 1) _ _ g1 hi h12 emi (by omega) (by rw [o1]; omega) (by omega) (by omega)
        refine ⟨σ', τ', mc', ms', ?_, hy.trans e2, e3, FF_tr (FF_left σ τ k 0 0 (MN_left hk (by show (0 : Int) ≤ _; omega))) e4, PL_can (τ := τ) (τ1 := pI τ 15 0 k 0) rfl rfl (by rw [lf_pI, if_neg hik]) rfl eP, e5, e6⟩
        rw [kst_d, nI_1, e1]
      rcases bzi with h13 | h13
      · -- it sells
        rw [if_neg (not_not_intro h13)]
        obtain ⟨o, a1, a2, a3⟩ := best_of hIO (G_IN hG) hO p 1
        rw [a1, bd_some]
        cases o with
        | none =>
          rw [oc_none]
          exact hstop (y_mn0 (by omega) _ c1 h13 a2)
        | some k =>
          obtain ⟨hk, k12, k13, hlk⟩ := a3 k rfl
          have hik : i ≠ k := fun e => by rw [← e, h13] at k13; exact absurd k13 (by decide)
          obtain ⟨-, k31, k32, k33, k34, k35⟩ := hIO.2 k hk
          obtain ⟨⟨w, hw, ew⟩, -⟩ := hO.2.2 k hk
          rw [oc_some, if_gd (show k < gN σ 5 by rw [(G_IN hG).1, hIO.1]; exact hk), x_meet0 (by rw [i33]; exact h13), bd_some, k34, i34]
          by_cases c2 : gI τ 14 0 i ≤ gI τ 14 0 k
          · rw [if_neg (fun z => lt_nle.mp z c2), if_pos (show ¬ (1 : Int32) = 0 by decide), k31]
            by_cases c3 : gI τ 11 0 k = gI τ 11 0 i
            · rw [i31, if_neg (not_not_intro c3)]
              exact hcan k hk hik hlk (y_mc0 (by omega) (by omega) _ c1 h13 a2 c2 c3)
            · rw [i31, if_pos c3, ← i35, mq_x i35 k35, kst_d, i35]
              refine hgo k w mi hk hik hlk hw hmi (fun e => c3 (by rw [ew, emi, e])) (fun e => absurd (h13.symm.trans e) (by decide)) (fun _ => rfl) (y_mt0 (by omega) (by omega) hik _ c1 h13 a2 c2 c3 ew emi hw hmi hp) (fun s' mc ms hs => ?_)
              rw [i31, emi]
              refine x_twr1 (w := w) (p := p) (by rw [show gI (pI σ 35 i 0 (gI τ 15 0 i - mq τ i k)) 33 k 0 = gI σ 33 k 0 from rfl, k33, k13]; decide) (by rw [show gI (pI σ 35 i 0 (gI τ 15 0 i - mq τ i k)) 31 k 0 = gI σ 31 k 0 from rfl, k31, ew]) (by rw [show gI (pI σ 35 i 0 (gI τ 15 0 i - mq τ i k)) 32 k 0 = gI σ 32 k 0 from rfl, k32, k12]) ?_
              rw [show gI (pI σ 35 i 0 (gI τ 15 0 i - mq τ i k)) 35 k 0 = gI σ 35 k 0 by rw [gI_pI, if_neg (fun z => hik z.2.1.symm)], ← i35]
              exact hs
          · rw [if_pos (lt_nle.mpr c2), if_neg (not_not_intro rfl)]
            exact hstop (y_mo0 (by omega) (by omega) _ c1 h13 a2 c2)
      · -- it buys
        have h13' : ¬ gI τ 13 0 i = 0 := by rw [h13]; decide
        rw [if_pos h13']
        obtain ⟨o, a1, a2, a3⟩ := best_of hIO (G_IN hG) hO p 0
        rw [a1, bd_some]
        cases o with
        | none =>
          rw [oc_none]
          exact hstop (y_mn1 (by omega) _ c1 h13' a2)
        | some k =>
          obtain ⟨hk, k12, k13, hlk⟩ := a3 k rfl
          have hik : i ≠ k := fun e => by rw [← e, h13] at k13; exact absurd k13 (by decide)
          obtain ⟨-, k31, k32, k33, k34, k35⟩ := hIO.2 k hk
          obtain ⟨⟨w, hw, ew⟩, -⟩ := hO.2.2 k hk
          rw [oc_some, if_gd (show k < gN σ 5 by rw [(G_IN hG).1, hIO.1]; exact hk), x_meet1 (by rw [i33]; exact h13'), bd_some, k34, i34]
          by_cases c2 : gI τ 14 0 k ≤ gI τ 14 0 i
          · rw [if_neg (fun z => lt_nle.mp z c2), if_pos (show ¬ (1 : Int32) = 0 by decide), k31]
            by_cases c3 : gI τ 11 0 k = gI τ 11 0 i
            · rw [i31, if_neg (not_not_intro c3)]
              exact hcan k hk hik hlk (y_mc1 (by omega) (by omega) _ c1 h13' a2 c2 c3)
            · rw [i31, if_pos c3, ← i35, mq_x i35 k35, kst_d, i35]
              refine hgo k mi w hk hik hlk hmi hw (fun e => c3 (by rw [ew, emi, e])) (fun _ => rfl) (fun e => absurd (h13.symm.trans e) (by decide)) (y_mt1 (by omega) (by omega) hik _ c1 h13' a2 c2 c3 ew emi hw hmi hp) (fun s' mc ms hs => ?_)
              rw [i31, emi]
              refine x_twr0 (w := w) (p := p) (by rw [show gI (pI σ 35 i 0 (gI τ 15 0 i - mq τ i k)) 33 k 0 = gI σ 33 k 0 from rfl, k33, k13]) (by rw [show gI (pI σ 35 i 0 (gI τ 15 0 i - mq τ i k)) 31 k 0 = gI σ 31 k 0 from rfl, k31, ew]) (by rw [show gI (pI σ 35 i 0 (gI τ 15 0 i - mq τ i k)) 32 k 0 = gI σ 32 k 0 from rfl, k32, k12]) ?_
              rw [show gI (pI σ 35 i 0 (gI τ 15 0 i - mq τ i k)) 35 k 0 = gI σ 35 k 0 by rw [gI_pI, if_neg (fun z => hik z.2.1.symm)], ← i35]
              exact hs
          · rw [if_pos (lt_nle.mpr c2), if_neg (not_not_intro rfl)]
            exact hstop (y_mo1 (by omega) (by omega) _ c1 h13' a2 c2)
