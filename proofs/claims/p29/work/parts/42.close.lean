/-! PURE: a position that is closed against resting orders -/
theorem G_mono {B B' : Int} {σ τ : St} (h : G B σ τ) (hb : B ≤ B') : G B' σ τ := ⟨h.1, h.2.1, h.2.2.1, by have := h.2.2.2.1; omega, h.2.2.2.2⟩
def cS (σ : St) (k b s p : Nat) (q : Int32) : St := trS (pI σ 35 k 0 (gI σ 35 k 0 - q)) b s p q (gI σ 34 k 0)
def cT (τ : St) (k b s p : Nat) (q : Int32) : St := trT (pI τ 15 0 k (gI τ 15 0 k - q)) b s p q (gI τ 14 0 k)
theorem c_step {B : Int} {σ τ : St} (h : G B σ τ) (hB : B < 50000) {k b s p : Nat} (hk : k < tn τ) (hb : b < 5) (hs : s < 5) (hp : p < 3) (hbs : b ≠ s) {q : Int32} (hq : 0 ≤ q.toInt ∧ q.toInt ≤ lf τ k) (hlk : 0 < lf τ k) :
    G (B + 1) (cS σ k b s p q) (cT τ k b s p q) ∧ (q.toInt = lf τ k → G B (cS σ k b s p q) (cT τ k b s p q) ∧ op (cT τ k b s p q) ≤ op τ - 1) ∧ (ps (cT τ k b s p q) (3 * b + p) = ps τ (3 * b + p) + q.toInt ∧ ps (cT τ k b s p q) (3 * s + p) = ps τ (3 * s + p) - q.toInt) ∧ MN τ (cT τ k b s p q) ∧ ∃ mc ms, fX5_trade (pI σ 35 k 0 (gI σ 35 k 0 - q)) (nI b) (nI s) (nI p) q (gI σ 34 k 0) = some (cS σ k b s p q, mc, ms) ∧ mc + pot σ ≤ pot (cS σ k b s p q) ∧ ms + pot σ ≤ pot (cS σ k b s p q) := by
  have hO := G_BO h
  have hIO := G_IO h
  have e35k := (hIO.2 k hk).2.2.2.2.2
  have e34k := (hIO.2 k hk).2.2.2.2.1
  have lk := lf_ge hO hk
  obtain ⟨-, -, -, x1, x2, -⟩ := hO.2.2 k hk
  unfold cS cT
  rw [e35k, e34k]
  have vk : (gI τ 15 0 k - q).toInt = lf τ k - q.toInt := sub32 rfl rfl (by show _ ≤ lf τ k - _; omega) (by show lf τ k - _ < _; omega)
  have h1 := G_left h hk (v := gI τ 15 0 k - q) (by omega) (by omega)
  generalize ht : pI τ 15 0 k (gI τ 15 0 k - q) = t1 at h1 ⊢
  have s1 : sm (lf t1) (tn τ) = sm (lf τ) (tn τ) - q.toInt := by
    have a := lf_sum_pI hk (gI τ 15 0 k - q)
    rw [ht] at a
    rw [a, vk]
    omega
  have o1 : op t1 = op τ - 1 + (if 0 < lf τ k - q.toInt then 1 else 0) := by
    have a := op_pI hk (gI τ 15 0 k - q)
    rw [ht, show oc1 τ k = 1 from if_pos hlk, vk] at a
    exact a
  have p1 : ∀ j, ps t1 j = ps τ j := fun j => by rw [← ht]; rfl
  have n1 : tn t1 = tn τ := by rw [← ht]; rfl
  have bb := ps_bnd hO (G_BP h) (j := 3 * b + p) (by omega)
  have bs := ps_bnd hO (G_BP h) (j := 3 * s + p) (by omega)
  have hts := tr_sum (τ := t1) (x := gI τ 14 0 k) hb hs hp hbs (q := q) (by omega) (by rw [p1]; exact bb) (by rw [p1]; exact bs)
  have hBP : BP (trT t1 b s p q (gI τ 14 0 k)) := by
    have hh := G_BP h
    unfold BP at hh ⊢
    rw [hts.1]
    show _ + 2 * sm (lf t1) (tn t1) ≤ 200 * (tn t1 : Int)
    rw [n1, s1]
    simp only [p1]
    omega
  obtain ⟨g1, g2, g3⟩ := G_trade h1 hB hb hs hp hbs (q := q) (x := gI τ 14 0 k) ⟨hq.1, by omega⟩ ⟨x1, x2⟩ hBP
  have o2 : op (trT t1 b s p q (gI τ 14 0 k)) = op t1 := rfl
  have hMN : MN τ (trT t1 b s p q (gI τ 14 0 k)) := MN_trade (τ1 := t1) hb hs hbs hp (by rw [← ht]; exact SM_left τ k _) (fun m => by rw [← ht]; rfl) p1 ((G_BQ h) p hp).1 (by
      have e := lf_sum h1.1.2.2.2.2.2.2.2.2.1
      rw [n1] at e
      exact e) x1 (fun K hK => hK.2.2.1 k hk) ⟨hq.1, by omega⟩ bb bs (by rw [s1]; omega)
  refine ⟨g1, fun e => ⟨⟨g1.1, g1.2.1, g1.2.2.1, ?_, g1.2.2.2.2⟩, ?_⟩, ⟨by rw [hts.2.1, p1], by rw [hts.2.2.1, p1]⟩, hMN, g2⟩
  · rw [g3]
    show (gN σ 1 : Int) + op t1 + 1 ≤ B
    have := h.2.2.2.1
    rw [o1, if_neg (by omega)]
    omega
  · rw [o2, o1, if_neg (by omega)]
    omega
def absI (x : Int32) : Int32 := if 0 ≤ x then x else 0 - x
def cq (τ : St) (k : Nat) (a : Int32) : Int32 := if a ≤ gI τ 15 0 k then a else gI τ 15 0 k
theorem cq_x (τ : St) (k : Nat) (a : Int32) : (if a < gI τ 15 0 k then a else gI τ 15 0 k) = cq τ k a := by
  unfold cq
  by_cases c : a < gI τ 15 0 k
  · rw [if_pos c, if_pos (by rw [Int32.le_iff_toInt_le]; rw [Int32.lt_iff_toInt_lt] at c; omega)]
  · rw [if_neg c]
    split
    · rename_i d
      rw [← Int32.toInt_inj]
      rw [Int32.le_iff_toInt_le] at d
      rw [Int32.lt_iff_toInt_lt] at c
      omega
    · rfl
theorem cq_b {τ : St} {k : Nat} {a : Int32} (h0 : 0 ≤ lf τ k) (ha : 0 ≤ a.toInt) : 0 ≤ (cq τ k a).toInt ∧ (cq τ k a).toInt ≤ lf τ k ∧ (cq τ k a).toInt ≤ a.toInt ∧ ((cq τ k a).toInt = lf τ k ∨ (cq τ k a).toInt = a.toInt) := by
  unfold cq
  by_cases c : a ≤ gI τ 15 0 k
  · have c' : a.toInt ≤ lf τ k := Int32.le_iff_toInt_le.mp c
    rw [if_pos c]
    omega
  · have c' : ¬ a.toInt ≤ lf τ k := mt Int32.le_iff_toInt_le.mpr c
    rw [if_neg c]
    exact ⟨h0, Int.le_refl _, by show lf τ k ≤ _; omega, Or.inl rfl⟩
-- the reference
theorem y_cz {τ : St} {m p : Nat} (hm : m < 5) (hp : p < 3) (n : Nat) (o b : Int32) (h : gI τ 4 0 (3 * m + p) = 0) : fX6_closes_L27 (n + 1) τ o b (nI m) (nI p) = some τ := by
  rw [fX6_closes_L27.eq_2, if_gd (ix3 m hm p hp).2, (ix3 m hm p hp).1, if_pos h]
theorem y_cn {τ : St} {m p : Nat} (hm : m < 5) (hp : p < 3) (n : Nat) (b : Int32) : fX6_closes_L27 (n + 1) τ (-1) b (nI m) (nI p) = some τ := by
  rw [fX6_closes_L27.eq_2, if_gd (ix3 m hm p hp).2, if_pos (show (-1 : Int32) = -1 from rfl), ite_self]
theorem cT_eq {τ : St} {k b s p : Nat} {q : Int32} : pI (trT τ b s p q (gI τ 14 0 k)) 15 0 k (gI (trT τ b s p q (gI τ 14 0 k)) 15 0 k - q) = cT τ k b s p q := by
  unfold cT
  rw [show gI (trT τ b s p q (gI τ 14 0 k)) 15 0 k = gI τ 15 0 k from rfl, trT_pI]
theorem y_c0 {τ : St} {m p k w : Nat} (hm : m < 5) (hp : p < 3) (hk : k < 100) (n : Nat) (h : ¬ gI τ 4 0 (3 * m + p) = 0) (ew : gI τ 11 0 k = nI w) (hw : w < 5) {o : Int32} (hb : fX6_bestOf (cT τ k m w p (cq τ k (-gI τ 4 0 (3 * m + p)))) (nI p) 0 = some o) : fX6_closes_L27 (n + 1) τ (nI k) 0 (nI m) (nI p) = fX6_closes_L27 n (cT τ k m w p (cq τ k (-gI τ 4 0 (3 * m + p)))) o 0 (nI m) (nI p) := by
  rw [fX6_closes_L27.eq_2, if_gd (ix3 m hm p hp).2, (ix3 m hm p hp).1, if_neg h, if_neg (nI_ne1 (by omega)), if_pos (show (0 : Int32) = 0 from rfl), kst_d, if_gd (vin_nI hk (by omega)), clamp_nI (show k < 2147483648 by omega)]
  by_cases c : -gI τ 4 0 (3 * m + p) ≤ gI τ 15 0 k
  · have e : cq τ k (-gI τ 4 0 (3 * m + p)) = -gI τ 4 0 (3 * m + p) := if_pos c
    rw [e] at hb ⊢
    rw [if_pos c, if_pos (show (0 : Int32) = 0 from rfl), if_pos (show (0 : Int32) = 0 from rfl), ew, y_trade τ hm hw hp, bd_some, cT_eq, hb, bd_some]
  · have e : cq τ k (-gI τ 4 0 (3 * m + p)) = gI τ 15 0 k := if_neg c
    rw [e] at hb ⊢
    rw [if_neg c, kst_d, if_pos (show (0 : Int32) = 0 from rfl), if_pos (show (0 : Int32) = 0 from rfl), ew, y_trade τ hm hw hp, bd_some, cT_eq, hb, bd_some]
theorem y_c1 {τ : St} {m p k w : Nat} (hm : m < 5) (hp : p < 3) (hk : k < 100) (n : Nat) (h : ¬ gI τ 4 0 (3 * m + p) = 0) (ew : gI τ 11 0 k = nI w) (hw : w < 5) {o : Int32} (hb : fX6_bestOf (cT τ k w m p (cq τ k (gI τ 4 0 (3 * m + p)))) (nI p) 1 = some o) : fX6_closes_L27 (n + 1) τ (nI k) 1 (nI m) (nI p) = fX6_closes_L27 n (cT τ k w m p (cq τ k (gI τ 4 0 (3 * m + p)))) o 1 (nI m) (nI p) := by
  have h10 : ¬ (1 : Int32) = 0 := by decide
  rw [fX6_closes_L27.eq_2, if_gd (ix3 m hm p hp).2, (ix3 m hm p hp).1, if_neg h, if_neg (nI_ne1 (by omega)), if_neg h10, kst_d, if_gd (vin_nI hk (by omega)), clamp_nI (show k < 2147483648 by omega)]
  by_cases c : gI τ 4 0 (3 * m + p) ≤ gI τ 15 0 k
  · have e : cq τ k (gI τ 4 0 (3 * m + p)) = gI τ 4 0 (3 * m + p) := if_pos c
    rw [e] at hb ⊢
    rw [if_pos c, if_neg h10, if_neg h10, ew, y_trade τ hw hm hp, bd_some, cT_eq, hb, bd_some]
  · have e : cq τ k (gI τ 4 0 (3 * m + p)) = gI τ 15 0 k := if_neg c
    rw [e] at hb ⊢
    rw [if_neg c, kst_d, if_neg h10, if_neg h10, ew, y_trade τ hw hm hp, bd_some, cT_eq, hb, bd_some]
def own0 (τ : St) (m : Nat) : Prop := ∀ k, k < tn τ → 0 < lf τ k → gI τ 11 0 k ≠ nI m
theorem own0_c {τ : St} {m : Nat} (h : own0 τ m) {k b s p : Nat} {q : Int32} (hlk : 0 < lf τ k) : own0 (cT τ k b s p q) m := fun j hj hl => by
  have e : lf (cT τ k b s p q) j = lf (pI τ 15 0 k (gI τ 15 0 k - q)) j := rfl
  rw [e, lf_pI] at hl
  by_cases c : j = k
  · subst c
    exact h j hj hlk
  · rw [if_neg c] at hl
    exact h j hj hl
theorem cT_pos (τ : St) {k b s p m p' : Nat} (q : Int32) (hp : p < 3) (hp' : p' < 3) (hn : p' ≠ p) : gI (cT τ k b s p q) 4 0 (3 * m + p') = gI τ 4 0 (3 * m + p') := by
  show (if 4 = 4 ∧ 0 = 0 ∧ 3 * m + p' = 3 * s + p then _ else if 4 = 4 ∧ 0 = 0 ∧ 3 * m + p' = 3 * b + p then _ else gI τ 4 0 (3 * m + p')) = _
  rw [if_neg (by omega), if_neg (by omega)]
theorem FF_cT (σ τ : St) (k b s p : Nat) (q : Int32) (hM : MN τ (cT τ k b s p q)) : FF σ τ (cS σ k b s p q) (cT τ k b s p q) :=
  ⟨⟨⟨fun _ => rfl, fun _ => rfl, fun _ => rfl, rfl, rfl, SM_tr (SM_left τ k _) (SM_trade _ b s p _ _), hM⟩, fun _ => rfl, fun _ => rfl⟩, fun _ => rfl, fun _ => rfl, rfl⟩
/-- what closing a position leaves -/
def CR (B : Int) (m p : Nat) (σ τ σ' τ' : St) (mc ms : Nat) : Prop := G B σ' τ' ∧ FF σ τ σ' τ' ∧ own0 τ' m ∧ (∀ p', p' < 3 → p' ≠ p → gI τ' 4 0 (3 * m + p') = gI τ 4 0 (3 * m + p')) ∧ mc + pot σ ≤ pot σ' ∧ ms + pot σ ≤ pot σ'
theorem CR_rfl {B : Int} {m p : Nat} {σ τ : St} (h : G B σ τ) (ho : own0 τ m) : CR B m p σ τ σ τ 0 0 := ⟨h, FF_rfl σ τ, ho, fun _ _ _ => rfl, by omega, by omega⟩
theorem CR_tr {B B' : Int} {m p : Nat} {σ τ s1 t1 σ' τ' : St} {mc ms mc' ms' : Nat} (h1 : CR B m p σ τ s1 t1 mc ms) (h2 : CR B' m p s1 t1 σ' τ' mc' ms') : CR B' m p σ τ σ' τ' (mc + mc') (ms + ms') := by
  obtain ⟨-, a2, -, a4, a5, a6⟩ := h1
  obtain ⟨b1, b2, b3, b4, b5, b6⟩ := h2
  exact ⟨b1, FF_tr a2 b2, b3, fun p' hp hn => (b4 p' hp hn).trans (a4 p' hp hn), by omega, by omega⟩
theorem x_cz {σ : St} {m p r : Nat} (hp : p < 3) (n : Nat) (h : gI σ 4 m p = 0) (a : Int32) : fX5_closePosition_L13 (n + 1) σ (nI r) m a (nI p) = some (σ, 0, 0) := by
  rw [fX5_closePosition_L13.eq_2, if_gd (vin_nI hp (by omega)), clamp_nI (show p < 2147483648 by omega), if_pos h, ite_self]
set_option maxHeartbeats 1000000 in
theorem close_L {B : Int} (hB : B < 50000) {m p : Nat} (hm : m < 5) (hp : p < 3) {b : Int32} (hbz : bz b) : ∀ (n n2 r : Nat) (σ τ : St) (o : Int32), G B σ τ → own0 τ m → r ≤ 100 → op τ + r ≤ 100 → 101 - r < n → 101 - r < n2 → fX6_bestOf τ (nI p) b = some o → (b = 0 → ps τ (3 * m + p) ≤ 0) → (b = 1 → 0 ≤ ps τ (3 * m + p)) →
    ∃ σ' τ' mc ms, fX5_closePosition_L13 n σ (nI r) m (nI m) (nI p) = some (σ', mc, ms) ∧ fX6_closes_L27 n2 τ o b (nI m) (nI p) = some τ' ∧ CR (B + 1) m p σ τ σ' τ' mc ms := by
  intro n
  induction n with
  | zero => intro n2 r σ τ o _ _ _ _ h; omega
  | succ n ih =>
    intro n2 r σ τ o hG hown hr hop hn hn2 hbest hs0 hs1
    obtain ⟨n2, rfl⟩ : ∃ n3, n2 = n3 + 1 := ⟨n2 - 1, by omega⟩
    have hO := G_BO hG
    have hIO := G_IO hG
    have h100 := hO.2.1
    have hG' := G_mono hG (show B ≤ B + 1 by omega)
    have e4 := ((G_IP hG) m hm p hp).1
    have hpb := ps_bnd hO (G_BP hG) (j := 3 * m + p) (by omega)
    by_cases c0 : gI τ 4 0 (3 * m + p) = 0
    · exact ⟨σ, τ, 0, 0, x_cz hp n (e4.trans c0) _, y_cz hm hp n2 o b c0, CR_rfl hG' hown⟩
    · obtain ⟨ob, a1, a2, a3⟩ := best_of hIO (G_IN hG) hO p b
      have eo : o = enc ob := Option.some.inj (hbest.symm.trans a2)
      subst eo
      have hstop : ob = none → ∃ σ' τ' mc ms, (some (σ, 0, 0) : Option (St × Nat × Nat)) = some (σ', mc, ms) ∧ fX6_closes_L27 (n2 + 1) τ (enc ob) b (nI m) (nI p) = some τ' ∧ CR (B + 1) m p σ τ σ' τ' mc ms := fun e => by
        subst e
        exact ⟨σ, τ, 0, 0, rfl, y_cn hm hp n2 b, CR_rfl hG' hown⟩
      rw [fX5_closePosition_L13.eq_2]
      by_cases c9 : 100 ≤ r
      · rw [if_pos (show (100 : Int32) ≤ nI r from nI_le (a := 100) c9 (by omega))]
        refine hstop ?_
        cases ob with
        | none => rfl
        | some k =>
          obtain ⟨hk, -, -, hlk⟩ := a3 k rfl
          have := op_pos hk hlk
          omega
      · rw [if_neg (show ¬ (100 : Int32) ≤ nI r from nI_ge (a := r) (b := 100) (by omega) (by omega)), if_gd (vin_nI hp (by omega)), clamp_nI (show p < 2147483648 by omega), e4, if_neg c0]
        have hc0 : ps τ (3 * m + p) ≠ 0 := fun e => c0 (Int32.toInt_inj.mp e)
        -- behind a round
        have hgo : ∀ (k bb ss : Nat) (q : Int32), k < tn τ → 0 < lf τ k → bb < 5 → ss < 5 → bb ≠ ss → 0 ≤ q.toInt → q.toInt ≤ lf τ k → (q.toInt = lf τ k ∨ q.toInt = (ps τ (3 * m + p)).natAbs) → (bb = m ∧ ps τ (3 * m + p) + q.toInt ≤ 0 ∧ b = 0 ∨ ss = m ∧ 0 ≤ ps τ (3 * m + p) - q.toInt ∧ b = 1) →
            (∀ o', fX6_bestOf (cT τ k bb ss p q) (nI p) b = some o' → fX6_closes_L27 (n2 + 1) τ (enc ob) b (nI m) (nI p) = fX6_closes_L27 n2 (cT τ k bb ss p q) o' b (nI m) (nI p)) → (∀ s' mc ms, fX5_trade (pI σ 35 k 0 (gI σ 35 k 0 - q)) (nI bb) (nI ss) (nI p) q (gI σ 34 k 0) = some (s', mc, ms) → fX5_tradeWithResting σ (nI m) k q = some (s', mc, ms)) →
            ∃ σ' τ' mc ms, bt2 (fX5_tradeWithResting σ (nI m) k q) (fun q9 => kst (nI r + 1) (fun x => fX5_closePosition_L13 n q9 x m (nI m) (nI p))) = some (σ', mc, ms) ∧ fX6_closes_L27 (n2 + 1) τ (enc ob) b (nI m) (nI p) = some τ' ∧ CR (B + 1) m p σ τ σ' τ' mc ms := by
          intro k bb ss q hk hlk hbb hss hne q0 q1 q2 hrole hy hx
          obtain ⟨g1, g2, ⟨g3, g4⟩, gM, mc, ms, g5, g6, g7⟩ := c_step hG hB hk hbb hss hp hne ⟨q0, q1⟩ hlk
          have hx := hx _ _ _ g5
          rw [hx, bt2_some, kst_d, nI_1]
          have ho2 := own0_c (k := k) (b := bb) (s := ss) (p := p) (q := q) hown hlk
          have f1 := FF_cT σ τ k bb ss p q gM
          have hps : ps (cT τ k bb ss p q) (3 * m + p) = if b = 0 then ps τ (3 * m + p) + q.toInt else ps τ (3 * m + p) - q.toInt := by
            rcases hrole with ⟨rfl, -, rfl⟩ | ⟨rfl, -, rfl⟩
            · rw [if_pos rfl]; exact g3
            · rw [if_neg (by decide)]; exact g4
          obtain ⟨o2, b1, b2, b3⟩ := best_of (G_IO g1) (G_IN g1) (G_BO g1) p b
          have hy := hy _ b2
          by_cases cz : gI (cT τ k bb ss p q) 4 0 (3 * m + p) = 0
          · obtain ⟨n, rfl⟩ : ∃ n9, n = n9 + 1 := ⟨n - 1, by omega⟩
            obtain ⟨n2, rfl⟩ : ∃ n9, n2 = n9 + 1 := ⟨n2 - 1, by omega⟩
            rw [x_cz hp n (((G_IP g1) m hm p hp).1.trans cz), tk_some]
            exact ⟨_, _, _, _, rfl, hy.trans (y_cz hm hp n2 _ b cz), g1, f1, ho2, fun p' hp' hn => cT_pos τ q hp hp' hn, by omega, by omega⟩
          · have hql : q.toInt = lf τ k := by
              rcases q2 with e | e
              · exact e
              · have hz : ps (cT τ k bb ss p q) (3 * m + p) = 0 := by
                  rw [hps]
                  rcases hrole with ⟨-, h1, rfl⟩ | ⟨-, h1, rfl⟩
                  · rw [if_pos rfl]; omega
                  · rw [if_neg (by decide)]; omega
                exact absurd ((eq32 (b := 0) (B := 0) rfl (by decide)).mpr hz) cz
            obtain ⟨g8, g9⟩ := g2 hql
            obtain ⟨σ', τ', mc', ms', e1, e2, e3⟩ := ih n2 (r + 1) _ _ _ g8 ho2 (by omega) (by omega) (by omega) (by omega) b2 (fun e => by
              rw [hps]
              rcases hrole with ⟨-, h1, -⟩ | ⟨-, h1, h2⟩
              · rw [if_pos e]; exact h1
              · rw [e] at h2; exact absurd h2 (by decide)) (fun e => by
              rw [hps]
              rcases hrole with ⟨-, h1, h2⟩ | ⟨-, h1, -⟩
              · rw [e] at h2; exact absurd h2 (by decide)
              · rw [if_neg (by rw [e]; decide)]; exact h1)
            rw [e1, tk_some]
            exact ⟨σ', τ', _, _, rfl, hy.trans e2, CR_tr ⟨g1, f1, ho2, fun p' hp' hn => cT_pos τ q hp hp' hn, g6, g7⟩ e3⟩
        rcases hbz with rfl | rfl
        · -- below 0: it buys
          have hneg : ps τ (3 * m + p) < 0 := by have := hs0 rfl; omega
          rw [if_pos (show gI τ 4 0 (3 * m + p) ≤ 0 from (le32 (B := 0) rfl (by decide)).mpr (by show ps τ _ ≤ 0; omega)), a1, bd_some]
          cases ob with
          | none => rw [oc_none]; exact hstop rfl
          | some k =>
            obtain ⟨hk, k12, k13, hlk⟩ := a3 k rfl
            obtain ⟨-, k31, k32, k33, k34, k35⟩ := hIO.2 k hk
            obtain ⟨⟨w, hw, ew⟩, -⟩ := hO.2.2 k hk
            have hwm : w ≠ m := fun e => hown k hk hlk (by rw [ew, e])
            have ha : (-gI τ 4 0 (3 * m + p)).toInt = -ps τ (3 * m + p) := neg32 rfl (by show _ < ps τ _; omega)
            have hq := cq_b (τ := τ) (k := k) (a := -gI τ 4 0 (3 * m + p)) (by omega) (by omega)
            have eq : (if (if (0 : Int32) ≤ gI τ 4 0 (3 * m + p) then gI τ 4 0 (3 * m + p) else 0 - gI τ 4 0 (3 * m + p)) < gI σ 35 k 0 then (if (0 : Int32) ≤ gI τ 4 0 (3 * m + p) then gI τ 4 0 (3 * m + p) else 0 - gI τ 4 0 (3 * m + p)) else gI σ 35 k 0) = cq τ k (-gI τ 4 0 (3 * m + p)) := by
              rw [if_neg (show ¬ (0 : Int32) ≤ gI τ 4 0 (3 * m + p) from fun z => by have := (le32 (A := 0) (by decide) rfl).mp z; change 0 ≤ ps τ (3 * m + p) at this; omega), k35, Int32.zero_sub]
              exact cq_x τ k _
            rw [oc_some, if_gd (show k < gN σ 5 by rw [(G_IN hG).1, hIO.1]; exact hk), eq]
            refine hgo k m w _ hk hlk hm hw (Ne.symm hwm) hq.1 hq.2.1 (by rw [ha] at hq; omega) (Or.inl ⟨rfl, by rw [ha] at hq; omega, rfl⟩) (fun o' ho' => y_c0 hm hp (by omega) n2 c0 ew hw ho') (fun s' mc ms hs => ?_)
            exact x_twr0 (by rw [k33, k13]) (by rw [k31, ew]) (by rw [k32, k12]) hs
        · -- above 0: it sells
          have hpos : 0 < ps τ (3 * m + p) := by have := hs1 rfl; omega
          rw [if_neg (show ¬ gI τ 4 0 (3 * m + p) ≤ 0 from fun z => by have := (le32 (B := 0) rfl (by decide)).mp z; change ps τ (3 * m + p) ≤ 0 at this; omega), a1, bd_some]
          cases ob with
          | none => rw [oc_none]; exact hstop rfl
          | some k =>
            obtain ⟨hk, k12, k13, hlk⟩ := a3 k rfl
            obtain ⟨-, k31, k32, k33, k34, k35⟩ := hIO.2 k hk
            obtain ⟨⟨w, hw, ew⟩, -⟩ := hO.2.2 k hk
            have hwm : w ≠ m := fun e => hown k hk hlk (by rw [ew, e])
            have ha : (gI τ 4 0 (3 * m + p)).toInt = ps τ (3 * m + p) := rfl
            have hq := cq_b (τ := τ) (k := k) (a := gI τ 4 0 (3 * m + p)) (by omega) (by omega)
            have eq : (if (if (0 : Int32) ≤ gI τ 4 0 (3 * m + p) then gI τ 4 0 (3 * m + p) else 0 - gI τ 4 0 (3 * m + p)) < gI σ 35 k 0 then (if (0 : Int32) ≤ gI τ 4 0 (3 * m + p) then gI τ 4 0 (3 * m + p) else 0 - gI τ 4 0 (3 * m + p)) else gI σ 35 k 0) = cq τ k (gI τ 4 0 (3 * m + p)) := by
              rw [if_pos (show (0 : Int32) ≤ gI τ 4 0 (3 * m + p) from (le32 (A := 0) (by decide) rfl).mpr (by show 0 ≤ ps τ _; omega)), k35]
              exact cq_x τ k _
            rw [oc_some, if_gd (show k < gN σ 5 by rw [(G_IN hG).1, hIO.1]; exact hk), eq]
            refine hgo k w m _ hk hlk hw hm hwm hq.1 hq.2.1 (by rw [ha] at hq; omega) (Or.inr ⟨rfl, by rw [ha] at hq; omega, rfl⟩) (fun o' ho' => y_c1 hm hp (by omega) n2 c0 ew hw ho') (fun s' mc ms hs => ?_)
            exact x_twr1 (by rw [k33, k13]; decide) (by rw [k31, ew]) (by rw [k32, k12]) hs
theorem close_of {B : Int} (hB : B < 50000) {m p : Nat} (hm : m < 5) (hp : p < 3) {σ τ : St} (hG : G B σ τ) (hown : own0 τ m) : ∃ σ' τ' mc ms, fX5_closePosition σ (nI m) (nI p) = some (σ', mc, ms) ∧ fX6_closes τ (nI m) (nI p) = some τ' ∧ CR (B + 1) m p σ τ σ' τ' mc ms := by
  unfold fX5_closePosition fX6_closes
  rw [if_gd (vin_nI hm (by omega)), clamp_nI (show m < 2147483648 by omega), if_gd (ix3 m hm p hp).2, (ix3 m hm p hp).1]
  have hop := op_b τ
  have h100 := (G_BO hG).2.1
  by_cases c : gI τ 4 0 (3 * m + p) ≤ 0
  · obtain ⟨o, b1, b2, b3⟩ := best_of (G_IO hG) (G_IN hG) (G_BO hG) p 0
    rw [if_pos c, b2, bd_some]
    exact close_L hB hm hp (Or.inl rfl) 1000 1000 0 σ τ _ hG hown (by omega) (by omega) (by omega) (by omega) b2 (fun _ => (le32 (B := 0) rfl (by decide)).mp c) (fun e => absurd e (by decide))
  · obtain ⟨o, b1, b2, b3⟩ := best_of (G_IO hG) (G_IN hG) (G_BO hG) p 1
    rw [if_neg c, b2, bd_some]
    exact close_L hB hm hp (Or.inr rfl) 1000 1000 0 σ τ _ hG hown (by omega) (by omega) (by omega) (by omega) b2 (fun e => absurd e (by decide)) (fun _ => by
      have := mt (le32 (a := gI τ 4 0 (3 * m + p)) (B := 0) rfl (by decide)).mpr c
      show 0 ≤ ps τ (3 * m + p)
      change ¬ ps τ (3 * m + p) ≤ 0 at this
      omega)
