/-! PURE, what the two states have in common. σ: the one that is checked; τ: the reference -/
def tn (τ : St) : Nat := (gI τ 21 0 0).toNatClampNeg
def lf (τ : St) (k : Nat) : Int := (gI τ 15 0 k).toInt
def ps (τ : St) (j : Nat) : Int := (gI τ 4 0 j).toInt
def IA (σ τ : St) : Prop := ∀ m, m < 5 → gL σ 0 m 0 = gL τ 6 0 m ∧ gL σ 1 m 0 = gL τ 8 0 m ∧ gI σ 0 m 0 = gI τ 10 0 m
def IU (σ τ : St) : Prop := ∀ m, m < 5 → ∀ k, k < 2 → gI σ 3 m k = gI τ 7 0 (2 * m + k)
def IP (σ τ : St) : Prop := ∀ m, m < 5 → ∀ p, p < 3 → gI σ 4 m p = gI τ 4 0 (3 * m + p) ∧ gL σ 5 m p = gL τ 5 0 (3 * m + p)
def IQ (σ τ : St) : Prop := ∀ p, p < 3 → gI σ 2 p 0 = gI τ 1 0 p ∧ gI σ 5 p 0 = gI τ 16 0 p ∧ ∀ v, v < 4 → gI σ 8 p v = gI τ 2 0 (3 * v + p)
def IO (σ τ : St) : Prop := gN σ 0 = tn τ ∧ ∀ k, k < tn τ → gI σ 30 k 0 = nI k ∧ gI σ 31 k 0 = gI τ 11 0 k ∧ gI σ 32 k 0 = gI τ 12 0 k ∧ gI σ 33 k 0 = gI τ 13 0 k ∧ gI σ 34 k 0 = gI τ 14 0 k ∧ gI σ 35 k 0 = gI τ 15 0 k
def IN (σ : St) : Prop := gN σ 5 = gN σ 0 ∧ gN σ 6 = gN σ 1 ∧ gN σ 0 ≤ gN σ 2 ∧ gN σ 2 ≤ 2 * gN σ 0 + 10 ∧ gN σ 1 ≤ gN σ 3 ∧ gN σ 3 ≤ 2 * gN σ 1 + 10 ∧ gN σ 0 ≤ 100 ∧ gN σ 1 ≤ 50000
def IW (σ τ : St) : Prop := gI σ 20 0 0 = gI τ 22 0 0 ∧ gL σ 20 0 0 = gL τ 20 0 0
-- what holds of the reference's state alone
def BO (τ : St) : Prop := gI τ 21 0 0 = nI (tn τ) ∧ tn τ ≤ 100 ∧ ∀ k, k < tn τ → (∃ m, m < 5 ∧ gI τ 11 0 k = nI m) ∧ (∃ p, p < 3 ∧ gI τ 12 0 k = nI p) ∧ bz (gI τ 13 0 k) ∧ 1 ≤ (gI τ 14 0 k).toInt ∧ (gI τ 14 0 k).toInt ≤ 9999 ∧ 0 ≤ lf τ k ∧ lf τ k ≤ 100
def BQ (τ : St) : Prop := ∀ p, p < 3 → 1 ≤ (gI τ 1 0 p).toInt ∧ (gI τ 1 0 p).toInt ≤ 9999 ∧ bz (gI τ 16 0 p) ∧ ∀ v, v < 4 → -500 ≤ (gI τ 2 0 (3 * v + p)).toInt ∧ (gI τ 2 0 (3 * v + p)).toInt ≤ 500
def BP (τ : St) : Prop := sm (fun j => ((ps τ j).natAbs : Int)) 15 + 2 * sm (lf τ) (tn τ) ≤ 200 * tn τ
theorem lf_ge {τ : St} (h : BO τ) {k : Nat} (hk : k < tn τ) : 0 ≤ lf τ k ∧ lf τ k ≤ 100 := (h.2.2 k hk).2.2.2.2.2
theorem lf_sum {τ : St} (h : BO τ) : 0 ≤ sm (lf τ) (tn τ) := (sm_bnd (B := 100) (fun k hk => lf_ge h hk)).1
theorem ps_bnd {τ : St} (hO : BO τ) (h : BP τ) {j : Nat} (hj : j < 15) : -20000 ≤ ps τ j ∧ ps τ j ≤ 20000 := by
  have h1 := lf_sum hO
  have h2 := sm_le (f := fun j => ((ps τ j).natAbs : Int)) hj (fun k _ => by omega)
  have h3 := hO.2.1
  unfold BP at h
  omega
theorem lok_of {σ : St} (h : IN σ) : lok0 σ := by
  obtain ⟨h1, h2, h3, h4, h5, h6, h7, h8⟩ := h
  exact ⟨h3, by omega, by omega⟩
theorem lok_of1 {σ : St} (h : IN σ) : lok1 σ := by
  obtain ⟨h1, h2, h3, h4, h5, h6, h7, h8⟩ := h
  exact ⟨h5, by omega, by omega⟩
-- what rests of a member's orders
def sRf (τ : St) (m p : Nat) (b : Int32) (k : Nat) : Int := if gI τ 11 0 k = nI m ∧ gI τ 12 0 k = nI p ∧ gI τ 13 0 k = b then lf τ k else 0
def sRest (τ : St) (m p : Nat) (b : Int32) : Int := sm (sRf τ m p b) (tn τ)
theorem sRf_b {τ : St} (h : BO τ) {m p : Nat} {b : Int32} {k : Nat} (hk : k < tn τ) : 0 ≤ sRf τ m p b k ∧ sRf τ m p b k ≤ 100 := by
  have := lf_ge h hk
  unfold sRf
  split <;> omega
theorem sRf_s {τ : St} (h : BO τ) {m p : Nat} {b : Int32} {k : Nat} (hk : k ≤ tn τ) : 0 ≤ sm (sRf τ m p b) k ∧ sm (sRf τ m p b) k ≤ 10000 := by
  have h1 := sm_bnd (f := sRf τ m p b) (n := k) (B := 100) (fun j hj => sRf_b h (by omega))
  have := h.2.1
  omega
theorem sRest_b {τ : St} (h : BO τ) (m p : Nat) (b : Int32) : 0 ≤ sRest τ m p b ∧ sRest τ m p b ≤ 10000 := sRf_s h (Nat.le_refl _)
theorem x_restL {σ τ : St} (hI : IO σ τ) (hN : IN σ) (hB : BO τ) {m p : Nat} {b : Int32} : ∀ (n k : Nat) (v : Int64), k ≤ tn τ → tn τ - k < n → v.toInt = sm (sRf τ m p b) k → ∃ r, fX5_restOf_L6 σ n (nI k) v (nI m) (nI p) b = some r ∧ r.toInt = sRest τ m p b := by
  have h100 := hB.2.1
  intro n
  induction n with
  | zero => intro k v _ h; omega
  | succ n ih =>
    intro k v hk hf hv
    have hn := hI.1
    rw [fX5_restOf_L6.eq_2]
    by_cases e : k = tn τ
    · subst e
      rw [if_pos ((nI_leI (by omega) (by omega)).mpr (Nat.le_of_eq hn))]
      exact ⟨v, rfl, hv⟩
    · have hlt : k < tn τ := by omega
      rw [if_neg (fun q => by have := (nI_leI (by omega) (by omega)).mp q; omega), if_gd (vin_nI (show k < gN σ 0 by omega) (by omega)), if_gd (lok_of hN)]
      simp only [kst, nI_1, clamp_nI (show k < 2147483648 by omega)]
      obtain ⟨-, h31, h32, h33, -, h35⟩ := hI.2 k hlt
      rw [h31, h32, h33, h35]
      have hs : sm (sRf τ m p b) (k + 1) = sm (sRf τ m p b) k + sRf τ m p b k := rfl
      have hb1 := sRf_s hB (m := m) (p := p) (b := b) hk
      have hb2 := sRf_b hB (m := m) (p := p) (b := b) hlt
      by_cases c1 : gI τ 11 0 k = nI m
      · by_cases c2 : gI τ 12 0 k = nI p
        · by_cases c3 : gI τ 13 0 k = b
          · rw [if_neg (not_not_intro c1), if_neg (not_not_intro c2), if_neg (not_not_intro c3)]
            have hq : sRf τ m p b k = lf τ k := if_pos ⟨c1, c2, c3⟩
            rw [hq] at hb2 hs
            exact ih (k + 1) _ (by omega) (by omega) (by rw [hs]; exact add64 hv (wid rfl) (by show _ ≤ _ + lf τ k; omega) (by show _ + lf τ k < _; omega))
          · rw [if_neg (not_not_intro c1), if_neg (not_not_intro c2), if_pos c3]
            have hq : sRf τ m p b k = 0 := if_neg (fun q => c3 q.2.2)
            exact ih (k + 1) _ (by omega) (by omega) (by rw [hs, hq, hv]; omega)
        · rw [if_neg (not_not_intro c1), if_pos c2]
          have hq : sRf τ m p b k = 0 := if_neg (fun q => c2 q.2.1)
          exact ih (k + 1) _ (by omega) (by omega) (by rw [hs, hq, hv]; omega)
      · rw [if_pos c1]
        have hq : sRf τ m p b k = 0 := if_neg (fun q => c1 q.1)
        exact ih (k + 1) _ (by omega) (by omega) (by rw [hs, hq, hv]; omega)
theorem x_rest {σ τ : St} (hI : IO σ τ) (hN : IN σ) (hB : BO τ) (m p : Nat) (b : Int32) : ∃ r, fX5_restOf σ (nI m) (nI p) b = some r ∧ r.toInt = sRest τ m p b :=
  x_restL hI hN hB 1000 0 0 (by omega) (by have := hB.2.1; omega) rfl
theorem y_restL {τ : St} (hB : BO τ) {m p : Nat} {b : Int32} : ∀ (n k : Nat) (v : Int32), k ≤ tn τ → tn τ - k < n → v.toInt = sm (sRf τ m p b) k → ∃ r, fX6_resting_L6 τ n (nI k) v (nI m) (nI p) b = some r ∧ r.toInt = sRest τ m p b := by
  have h100 := hB.2.1
  intro n
  induction n with
  | zero => intro k v _ h; omega
  | succ n ih =>
    intro k v hk hf hv
    rw [fX6_resting_L6.eq_2, hB.1]
    by_cases e : k = tn τ
    · subst e
      rw [if_pos ((nI_leI (by omega) (by omega)).mpr (Nat.le_refl _))]
      exact ⟨v, rfl, hv⟩
    · have hlt : k < tn τ := by omega
      rw [if_neg (fun q => by have := (nI_leI (by omega) (by omega)).mp q; omega), if_gd (vin_nI (show k < 100 by omega) (by omega))]
      simp only [kst, nI_1, clamp_nI (show k < 2147483648 by omega)]
      have hs : sm (sRf τ m p b) (k + 1) = sm (sRf τ m p b) k + sRf τ m p b k := rfl
      have hb1 := sRf_s hB (m := m) (p := p) (b := b) hk
      have hb2 := sRf_b hB (m := m) (p := p) (b := b) hlt
      have h0 : v + 0 = v := Int32.add_zero v
      rw [h0]
      by_cases c1 : gI τ 11 0 k = nI m
      · by_cases c2 : gI τ 12 0 k = nI p
        · by_cases c3 : gI τ 13 0 k = b
          · rw [if_neg (not_not_intro c1), if_neg (not_not_intro c2), if_neg (not_not_intro c3)]
            have hq : sRf τ m p b k = lf τ k := if_pos ⟨c1, c2, c3⟩
            rw [hq] at hb2 hs
            exact ih (k + 1) _ (by omega) (by omega) (by rw [hs]; exact add32 hv rfl (by show _ ≤ _ + lf τ k; omega) (by show _ + lf τ k < _; omega))
          · rw [if_neg (not_not_intro c1), if_neg (not_not_intro c2), if_pos c3]
            have hq : sRf τ m p b k = 0 := if_neg (fun q => c3 q.2.2)
            exact ih (k + 1) _ (by omega) (by omega) (by rw [hs, hq, hv]; omega)
        · rw [if_neg (not_not_intro c1), if_pos c2]
          have hq : sRf τ m p b k = 0 := if_neg (fun q => c2 q.2.1)
          exact ih (k + 1) _ (by omega) (by omega) (by rw [hs, hq, hv]; omega)
      · rw [if_pos c1]
        have hq : sRf τ m p b k = 0 := if_neg (fun q => c1 q.1)
        exact ih (k + 1) _ (by omega) (by omega) (by rw [hs, hq, hv]; omega)
theorem y_rest {τ : St} (hB : BO τ) (m p : Nat) (b : Int32) : ∃ r, fX6_resting τ (nI m) (nI p) b = some r ∧ r.toInt = sRest τ m p b :=
  y_restL hB 1000 0 0 (by omega) (by have := hB.2.1; omega) rfl
-- the best order of a side
def enc : Option Nat → Int32
  | none => -1
  | some k => nI k
def opn (τ : St) (p : Nat) (b : Int32) (k : Nat) : Prop := k < tn τ ∧ gI τ 12 0 k = nI p ∧ gI τ 13 0 k = b ∧ 0 < lf τ k
theorem nI_ne1 {k : Nat} (h : k < 2147483648) : nI k ≠ -1 := fun e => nI_pos (n := k) h (by rw [e]; decide)
theorem lf_le0 {τ : St} {k : Nat} : gI τ 15 0 k ≤ 0 ↔ lf τ k ≤ 0 := le32 rfl rfl
theorem bestL {σ τ : St} (hI : IO σ τ) (hN : IN σ) (hB : BO τ) {p : Nat} {b : Int32} : ∀ (n k : Nat) (o : Option Nat), k ≤ tn τ → tn τ - k < n → (∀ j, o = some j → opn τ p b j) → ∃ o', fX5_bestResting_L5 σ n (nI k) o (nI p) b = some o' ∧ fX6_bestOf_L5 τ n (nI k) (enc o) (nI p) b = some (enc o') ∧ ∀ j, o' = some j → opn τ p b j := by
  have h100 := hB.2.1
  intro n
  induction n with
  | zero => intro k v _ h; omega
  | succ n ih =>
    intro k o hk hf ho
    have hn := hI.1
    rw [fX5_bestResting_L5.eq_2, fX6_bestOf_L5.eq_2, hB.1]
    by_cases e : k = tn τ
    · subst e
      rw [if_pos ((nI_leI (by omega) (by omega)).mpr (Nat.le_of_eq hn)), if_pos ((nI_leI (by omega) (by omega)).mpr (Nat.le_refl _))]
      exact ⟨o, by cases o <;> rfl, rfl, ho⟩
    · have hlt : k < tn τ := by omega
      have hle : ¬ nI (tn τ) ≤ nI k := fun q => by have := (nI_leI (by omega) (by omega)).mp q; omega
      rw [if_neg (show ¬ nI (gN σ 0) ≤ nI k by rw [hn]; exact hle), if_neg hle, if_gd (vin_nI (show k < gN σ 0 by omega) (by omega)), if_gd (lok_of hN), if_gd (vin_nI (show k < 100 by omega) (by omega))]
      simp only [kst, nI_1, clamp_nI (show k < 2147483648 by omega)]
      obtain ⟨-, h31, h32, h33, h34, h35⟩ := hI.2 k hlt
      rw [h32, h33, h35]
      by_cases c1 : gI τ 12 0 k = nI p
      · by_cases c2 : gI τ 13 0 k = b
        · by_cases c3 : gI τ 15 0 k ≤ 0
          · rw [if_pos c3, if_neg (not_not_intro c1), if_neg (not_not_intro c2), if_pos c3]
            exact ih (k + 1) o (by omega) (by omega) ho
          · have hop : opn τ p b k := ⟨hlt, c1, c2, by have := mt lf_le0.mpr c3; omega⟩
            rw [if_neg c3, if_neg (not_not_intro c1), if_neg (not_not_intro c2), if_neg (not_not_intro c1), if_neg (not_not_intro c2), if_neg c3]
            have hok : ∀ j, some k = some j → opn τ p b j := fun j q => by cases q; exact hop
            cases o with
            | none =>
              rw [show enc none = -1 from rfl, if_pos rfl]
              exact ih (k + 1) (some k) (by omega) (by omega) hok
            | some j =>
              have hj := (ho j rfl).1
              obtain ⟨-, -, -, j33, j34, j35⟩ := hI.2 j hj
              rw [show enc (some j) = nI j from rfl, if_neg (nI_ne1 (by omega)), if_gd (vin_nI (show j < 100 by omega) (by omega)), if_gd (vin_nI (show j < 100 by omega) (by omega)), clamp_nI (show j < 2147483648 by omega)]
              show ∃ o', bd (fX5_isBetter σ k j) _ = some o' ∧ _
              unfold fX5_isBetter
              rw [h33, h34, j34, c2]
              by_cases c4 : b = 0
              · rw [if_pos c4, if_pos c4]
                by_cases c5 : gI τ 14 0 j ≤ gI τ 14 0 k
                · rw [if_pos c5, if_pos c5]
                  exact ih (k + 1) (some j) (by omega) (by omega) ho
                · rw [if_neg c5, if_neg c5]
                  exact ih (k + 1) (some k) (by omega) (by omega) hok
              · rw [if_neg c4, if_neg c4]
                by_cases c5 : gI τ 14 0 k ≤ gI τ 14 0 j
                · rw [if_pos c5, if_pos c5]
                  exact ih (k + 1) (some j) (by omega) (by omega) ho
                · rw [if_neg c5, if_neg c5]
                  exact ih (k + 1) (some k) (by omega) (by omega) hok
        · rw [if_neg (not_not_intro c1), if_pos c2, if_neg (not_not_intro c1), if_pos c2, ite_self]
          exact ih (k + 1) o (by omega) (by omega) ho
      · rw [if_pos c1, if_pos c1, ite_self]
        exact ih (k + 1) o (by omega) (by omega) ho
theorem best_of {σ τ : St} (hI : IO σ τ) (hN : IN σ) (hB : BO τ) (p : Nat) (b : Int32) : ∃ o, fX5_bestResting σ (nI p) b = some o ∧ fX6_bestOf τ (nI p) b = some (enc o) ∧ ∀ j, o = some j → opn τ p b j :=
  bestL hI hN hB 1000 0 none (by omega) (by have := hB.2.1; omega) (fun _ q => nomatch q)
