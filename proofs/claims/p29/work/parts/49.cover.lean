/-! PURE: a loss that is covered -/
def FQ (σ τ σ' τ' : St) : Prop := (∀ m, gI τ' 10 0 m = gI τ 10 0 m) ∧ (∀ m, gI τ' 9 0 m = gI τ 9 0 m) ∧ gI τ' 23 0 0 = gI τ 23 0 0 ∧ gI τ' 21 0 0 = gI τ 21 0 0 ∧ gL τ' 20 0 0 = gL τ 20 0 0 ∧ (∀ m, gI σ' 1 m 0 = gI σ 1 m 0) ∧ sameN σ' σ
theorem sameN_rfl (σ : St) : sameN σ σ := ⟨rfl, rfl, rfl, rfl, rfl, rfl, rfl⟩
theorem sameN_tr {a b c : St} (h1 : sameN b a) (h2 : sameN c b) : sameN c a := by
  obtain ⟨a0, a1, a2, a3, a4, a5, a6⟩ := h1
  obtain ⟨b0, b1, b2, b3, b4, b5, b6⟩ := h2
  exact ⟨b0.trans a0, b1.trans a1, b2.trans a2, b3.trans a3, b4.trans a4, b5.trans a5, b6.trans a6⟩
theorem FQ_rfl (σ τ : St) : FQ σ τ σ τ := ⟨fun _ => rfl, fun _ => rfl, rfl, rfl, rfl, fun _ => rfl, sameN_rfl σ⟩
theorem FQ_tr {σ τ s t σ' τ' : St} (h1 : FQ σ τ s t) (h2 : FQ s t σ' τ') : FQ σ τ σ' τ' := by
  obtain ⟨a1, a2, a3, a4, a5, a6, a7⟩ := h1
  obtain ⟨b1, b2, b3, b4, b5, b6, b7⟩ := h2
  exact ⟨fun m => (b1 m).trans (a1 m), fun m => (b2 m).trans (a2 m), b3.trans a3, b4.trans a4, b5.trans a5, fun m => (b6 m).trans (a6 m), sameN_tr a7 b7⟩
theorem FQ_share (σ τ : St) (j : Nat) (v w : Int64) : FQ σ τ (pL σ 1 j 0 v) (pL τ 8 0 j w) := ⟨fun _ => rfl, fun _ => rfl, rfl, rfl, rfl, fun _ => rfl, sameN_rfl σ⟩
/-- of the shares alone, which give d -/
def SHr (τ τ' : St) (d : Int) : Prop := (∀ f i j, f ≠ 8 → gL τ' f i j = gL τ f i j) ∧ (∀ f i j, gI τ' f i j = gI τ f i j) ∧ (∀ j, j < 5 → 0 ≤ shI τ j → 0 ≤ shI τ' j) ∧ sm (shI τ') 5 = sm (shI τ) 5 - d ∧ 0 ≤ d
theorem SH_rfl (τ : St) : SHr τ τ 0 := ⟨fun _ _ _ _ => rfl, fun _ _ _ => rfl, fun _ _ h => h, by omega, by omega⟩
theorem SH_tr {a b c : St} {d e : Int} (h1 : SHr a b d) (h2 : SHr b c e) : SHr a c (d + e) := by
  obtain ⟨a1, a2, a3, a4, a5⟩ := h1
  obtain ⟨b1, b2, b3, b4, b5⟩ := h2
  exact ⟨fun f i j h => (b1 f i j h).trans (a1 f i j h), fun f i j => (b2 f i j).trans (a2 f i j), fun j hj h => b3 j hj (a3 j hj h), by omega, by omega⟩
theorem SH_put {τ : St} {j : Nat} (hj : j < 5) {v : Int64} (hv : 0 ≤ v.toInt) (hv2 : v.toInt ≤ shI τ j) : SHr τ (pL τ 8 0 j v) (shI τ j - v.toInt) := by
  have e : ∀ k, shI (pL τ 8 0 j v) k = if k = j then v.toInt else shI τ k := fun k => by
    unfold shI
    rw [gL_pL]
    simp only [true_and]
    split <;> rfl
  refine ⟨fun f i k h => by rw [gL_pL, if_neg (fun q => h q.1)], fun _ _ _ => rfl, fun k hk h => ?_, ?_, by omega⟩
  · rw [e]
    split
    · exact hv
    · exact h
  · rw [sm_upd (f := shI τ) (g := shI (pL τ 8 0 j v)) hj (fun k _ hk => by rw [e, if_neg hk]), e, if_pos rfl]
    omega
theorem pot_same {a b : St} (h : sameN b a) : pot b = pot a := by
  obtain ⟨a0, a1, a2, a3, a4, a5, a6⟩ := h
  unfold pot
  rw [a0, a1, a2, a3]
def pv (loss share all : Int64) : Int64 := if all ≤ loss then share else if 1 ≤ all then (loss * share) / all else share
theorem pv_b {loss share all : Int64} {L S A : Int} (hL : loss.toInt = L) (hS : share.toInt = S) (hA : all.toInt = A) (h0 : 0 ≤ L) (hS0 : 0 ≤ S ∧ S ≤ A ∧ S ≤ 60000000) (hA2 : A ≤ 300000000) : 0 ≤ (pv loss share all).toInt ∧ (pv loss share all).toInt ≤ S ∧ (pv loss share all).toInt * A ≤ L * S ∧ ∀ σ, fX5_partOf σ loss share all = some (pv loss share all) := by
  unfold pv fX5_partOf
  by_cases c1 : all ≤ loss
  · have c1' := (le64 hA hL).mp c1
    rw [if_pos c1, hS]
    refine ⟨hS0.1, Int.le_refl _, ?_, fun σ => if_pos c1⟩
    rw [Int.mul_comm S A]
    exact Int.mul_le_mul_of_nonneg_right c1' hS0.1
  · have c1' := mt (le64 hA hL).mpr c1
    have c2 : (1 : Int64) ≤ all := (le64 (A := 1) (by decide) hA).mpr (by omega)
    have hLS : 0 ≤ L * S := Int.mul_nonneg h0 hS0.1
    have hLS2 : L * S ≤ A * S := Int.mul_le_mul_of_nonneg_right (by omega) hS0.1
    have hAS : A * S ≤ 300000000 * 60000000 := by
      have h1 := mulB (a := A) (b := S) (A := 300000000) (B := 60000000) (by omega) hA2 (by omega) hS0.2.2
      exact h1.2
    have hne : ¬ all = 0 := fun e => by rw [e] at hA; have : (0 : Int) = A := hA; omega
    have hm1 : all ≠ -1 := fun e => by rw [e] at hA; have : (-1 : Int) = A := hA; omega
    have hm : (loss * share).toInt = L * S := mul64 hL hS (by omega) (by omega)
    have hd : ((loss * share) / all).toInt = L * S / A := by
      rw [Int64.toInt_div_of_ne_right _ _ hm1, hm, hA, Int.tdiv_eq_ediv_of_nonneg hLS]
    rw [if_neg c1, if_pos c2, hd]
    refine ⟨Int.ediv_nonneg hLS (by omega), Int.ediv_le_of_le_mul (by omega) (by rw [Int.mul_comm S A]; exact hLS2), Int.ediv_mul_le _ (by omega), fun σ => ?_⟩
    rw [if_neg c1, if_pos c2, if_gd hne]
theorem shf_pL (τ : St) (j : Nat) (v : Int64) (i : Nat) : shf (pL τ 8 0 j v) i = if i = j then (if gI τ 10 0 j = 0 then v.toInt else 0) else shf τ i := by
  unfold shf
  rw [gI_pL, gL_pL]
  simp only [true_and]
  by_cases c : i = j
  · rw [if_pos c, if_pos c, c]
  · rw [if_neg c, if_neg c]
theorem BS_share {c : Int} {τ : St} (hb : BS c τ) {j : Nat} {v : Int64} (hv : 0 ≤ v.toInt ∧ v.toInt ≤ c) : BS c (pL τ 8 0 j v) := fun i hi h => by
  rw [gL_pL]
  simp only [true_and]
  by_cases e : i = j
  · rw [if_pos e]; exact hv
  · rw [if_neg e]; exact hb i hi h
theorem pL_comm (σ : St) {f g : Nat} (h : f ≠ g) (i j i' j' : Nat) (v w : Int64) : pL (pL σ f i j v) g i' j' w = pL (pL σ g i' j' w) f i j v := by
  refine Prod.ext rfl (Prod.ext ?_ rfl)
  funext a b c
  show (if a = g ∧ b = i' ∧ c = j' then w else if a = f ∧ b = i ∧ c = j then v else σ.2.1 a b c) = if a = f ∧ b = i ∧ c = j then v else if a = g ∧ b = i' ∧ c = j' then w else σ.2.1 a b c
  by_cases c1 : a = g ∧ b = i' ∧ c = j'
  · rw [if_pos c1, if_neg (fun q => h (q.1.symm.trans c1.1)), if_pos c1]
  · rw [if_neg c1, if_neg c1]
theorem x_take (σ : St) (j : Nat) (v : Int64) : fX5_takeFromShare σ j v = some (if gL σ 1 j 0 < v then gL σ 1 j 0 else v, pL σ 1 j 0 (gL σ 1 j 0 - if gL σ 1 j 0 < v then gL σ 1 j 0 else v)) := by
  unfold fX5_takeFromShare
  rw [kst_d]
set_option maxHeartbeats 1000000 in
theorem part_S {c B : Int} {m : Nat} {z : Int64} {σ τ τ0 : St} (hG : G B σ (pL τ 6 0 m z)) (hb : BS c τ) (hc : 0 ≤ c ∧ c ≤ 60000000) {j : Nat} (hj : j < 5) {β : Type} (K : St → Int32 → Int64 → Int64 → Int64 → Int64 → Int32 → Int64 → Option β) {all loss : Int64} {A L : Int} (hA : all.toInt = A) (hA2 : 0 ≤ A ∧ A ≤ 300000000) (hL : loss.toInt = L) (hL0 : 0 ≤ L) (hle : ∀ i, i < 5 → shf τ i ≤ A) (paid : Int64)
    (hPV : 0 ≤ paid.toInt ∧ paid.toInt ≤ sm (shf τ0) j ∧ paid.toInt * A ≤ L * sm (shf τ0) j) (hV : sm (shf τ0) j ≤ 300000000) (hun : ∀ i, j ≤ i → shf τ i = shf τ0 i) (n n2 : Nat) (a4 : Int64) (a1 : Int32) (a2 : Int64) :
    ∃ σ' τ' paid', G B σ' (pL τ' 6 0 m z) ∧ BS c τ' ∧ FQ σ τ σ' τ' ∧ (∀ i, i < 5 → shf τ' i ≤ A) ∧ (0 ≤ paid'.toInt ∧ paid'.toInt ≤ sm (shf τ0) (j + 1) ∧ paid'.toInt * A ≤ L * sm (shf τ0) (j + 1)) ∧ (∀ i, j + 1 ≤ i → shf τ' i = shf τ0 i) ∧ SHr τ τ' ((loss - paid).toInt - (loss - paid').toInt) ∧ fX5_takeFromOthers_L11 (n + 1) σ (nI j) paid all loss = fX5_takeFromOthers_L11 n σ' (nI (j + 1)) paid' all loss ∧
      fX6_covers_L91 K (n2 + 1) τ (nI j) loss all (loss - paid) a4 a1 a2 = fX6_covers_L91 K n2 τ' (nI (j + 1)) loss all (loss - paid') a4 a1 a2 := by
  have hge : ¬ (5 : Int32) ≤ nI j := nI_ge (a := j) (b := 5) hj (by omega)
  obtain ⟨-, e2, e3⟩ := (G_IA hG) j hj
  have e2 : gL σ 1 j 0 = gL τ 8 0 j := e2
  have e3 : gI σ 0 j 0 = gI τ 10 0 j := e3
  rw [fX5_takeFromOthers_L11.eq_2, fX6_covers_L91.eq_2, if_neg hge, if_neg hge, if_gd (vin_nI hj (by omega)), if_gd (vin_nI hj (by omega)), clamp_nI (show j < 2147483648 by omega), e3]
  have es : sm (shf τ0) (j + 1) = sm (shf τ0) j + shf τ0 j := rfl
  have h0j := hun j (Nat.le_refl _)
  by_cases c1 : gI τ 10 0 j = 0
  · rw [if_neg (not_not_intro c1), if_neg (not_not_intro c1), e2]
    have hsh : shf τ j = (gL τ 8 0 j).toInt := if_pos c1
    have hbj := hb j hj c1
    have hlj := hle j hj
    rw [hsh] at hlj
    obtain ⟨v0, v1, v2, v3⟩ := pv_b (loss := loss) (share := gL τ 8 0 j) (all := all) hL rfl hA hL0 ⟨hbj.1, hlj, by omega⟩ hA2.2
    generalize hv : pv loss (gL τ 8 0 j) all = v at v0 v1 v2 v3
    have hx : (if gL σ 1 j 0 < v then gL σ 1 j 0 else v) = v := if_neg (fun q => by
      have := (lt64 (a := gL σ 1 j 0) (b := v) rfl rfl).mp q
      rw [e2] at this
      omega)
    rw [v3, bd_some, x_take, hx, bd_some, kst_d, kst_d, nI_1, e2]
    have hsub : (gL τ 8 0 j - v).toInt = (gL τ 8 0 j).toInt - v.toInt := sub64 rfl rfl (by omega) (by omega)
    have hadd : (paid + v).toInt = paid.toInt + v.toInt := add64 rfl rfl (by omega) (by omega)
    have hG2 : G B (pL σ 1 j 0 (gL τ 8 0 j - v)) (pL (pL τ 8 0 j (gL τ 8 0 j - v)) 6 0 m z) := by
      rw [pL_comm _ (show 8 ≠ 6 by omega)]
      exact G_share hG j _
    refine ⟨pL σ 1 j 0 (gL τ 8 0 j - v), pL τ 8 0 j (gL τ 8 0 j - v), paid + v, hG2, BS_share hb (by rw [hsub]; omega), FQ_share σ τ j _ _, fun i hi => ?_, ?_, fun i hi => ?_, ?_, rfl, ?_⟩
    · rw [shf_pL]
      by_cases ei : i = j
      · rw [if_pos ei, if_pos c1, hsub]; omega
      · rw [if_neg ei]; exact hle i hi
    · rw [hadd, es, ← h0j, hsh]
      refine ⟨by omega, by omega, ?_⟩
      rw [Int.add_mul, Int.mul_add]
      omega
    · rw [shf_pL, if_neg (by omega)]
      exact hun i (by omega)
    · have hlb := Int64.toInt_lt loss
      have s1 : (loss - paid).toInt = L - paid.toInt := sub64 hL rfl (by omega) (by omega)
      have s2 : (loss - (paid + v)).toInt = L - (paid.toInt + v.toInt) := sub64 hL hadd (by omega) (by omega)
      have h9 := SH_put (τ := τ) hj (v := gL τ 8 0 j - v) (by rw [hsub]; omega) (by rw [hsub]; show _ ≤ (gL τ 8 0 j).toInt; omega)
      have e9 : shI τ j - (gL τ 8 0 j - v).toInt = (loss - paid).toInt - (loss - (paid + v)).toInt := by rw [hsub, s1, s2]; show (gL τ 8 0 j).toInt - _ = _; omega
      rw [e9] at h9
      exact h9
    · have er : ∀ w : Int64, (loss - paid) - w = loss - (paid + w) := fun w => by grind
      by_cases c2 : gL τ 8 0 j ≤ 0
      · have c2' := (le64 (a := gL τ 8 0 j) (b := 0) (B := 0) rfl (by decide)).mp c2
        have hz : v = 0 := (eq64 (a := v) (b := 0) (B := 0) rfl (by decide)).mpr (by omega)
        rw [if_pos c2, kst_d, kst_d, hz, er]
      · have c2' := mt (le64 (a := gL τ 8 0 j) (b := 0) (B := 0) rfl (by decide)).mpr c2
        rw [if_neg c2]
        by_cases c3 : loss < all
        · have c3' : ¬ all ≤ loss := fun q => by
            have := (lt64 hL hA).mp c3
            have := (le64 hA hL).mp q
            omega
          have c4 : (1 : Int64) ≤ all := (le64 (A := 1) (by decide) hA).mpr (by omega)
          have hve : v = (loss * gL τ 8 0 j) / all := by rw [← hv]; unfold pv; rw [if_neg c3', if_pos c4]
          rw [if_pos c3, if_gd (show ¬ all = 0 from fun e => by rw [e] at hA; have : (0 : Int) = A := hA; omega)]
          rw [← hve, kst_d, kst_d, kst_d, er]
        · have c3' : all ≤ loss := (le64 hA hL).mpr (by
            have := mt (lt64 hL hA).mpr c3
            omega)
          have hve : v = gL τ 8 0 j := by rw [← hv]; unfold pv; rw [if_pos c3']
          rw [if_neg c3, hve, kst_d, kst_d, kst_d, er]
  · rw [if_pos c1, if_pos c1]
    have hsh : shf τ j = 0 := if_neg c1
    have ez : pL τ 8 0 j (gL τ 8 0 j - 0) = τ := by rw [Int64.sub_zero, pL_self]
    rw [ez, Int64.sub_zero, kst_d, kst_d, kst_d, nI_1]
    refine ⟨σ, τ, paid, hG, hb, FQ_rfl σ τ, hle, ?_, fun i hi => hun i (by omega), by rw [Int.sub_self]; exact SH_rfl τ, rfl, rfl⟩
    rw [es, ← h0j, hsh, Int.add_zero]
    exact hPV
theorem rest_S {c B : Int} {m : Nat} {z : Int64} {σ τ : St} (hG : G B σ (pL τ 6 0 m z)) (hb : BS c τ) (hc : 0 ≤ c ∧ c ≤ 60000000) {j : Nat} (hj : j < 5) {β γ : Type} (K : St → Int32 → Int64 → Int64 → Int64 → Int64 → Int32 → Int64 → Option β) (K2 : St → Int32 → Int64 → Int64 → Int64 → Option γ) (all loss paid : Int64) (h0 : 0 ≤ (loss - paid).toInt) (n n2 : Nat) (a4 a5 a6 : Int64) (a1 : Int32) (a2 : Int64) :
    ∃ σ' τ' paid', G B σ' (pL τ' 6 0 m z) ∧ BS c τ' ∧ FQ σ τ σ' τ' ∧ 0 ≤ (loss - paid').toInt ∧ SHr τ τ' ((loss - paid).toInt - (loss - paid').toInt) ∧ fX5_takeFromOthers_L63 K2 (n + 1) σ (nI j) paid all loss = fX5_takeFromOthers_L63 K2 n σ' (nI (j + 1)) paid' all loss ∧
      fX6_covers_L196 K (n2 + 1) τ (nI j) a5 a6 (loss - paid) a4 a1 a2 = fX6_covers_L196 K n2 τ' (nI (j + 1)) a5 a6 (loss - paid') a4 a1 a2 := by
  have hge : ¬ (5 : Int32) ≤ nI j := nI_ge (a := j) (b := 5) hj (by omega)
  obtain ⟨-, e2, e3⟩ := (G_IA hG) j hj
  have e2 : gL σ 1 j 0 = gL τ 8 0 j := e2
  have e3 : gI σ 0 j 0 = gI τ 10 0 j := e3
  rw [fX5_takeFromOthers_L63.eq_2, fX6_covers_L196.eq_2, if_neg hge, if_neg hge, if_gd (vin_nI hj (by omega)), if_gd (vin_nI hj (by omega)), clamp_nI (show j < 2147483648 by omega), e3]
  by_cases c1 : gI τ 10 0 j = 0
  · have hbj := hb j hj c1
    rw [if_neg (not_not_intro c1), if_pos c1, x_take, e2, bd_some, kst_d, kst_d, nI_1]
    generalize hr : loss - paid = r at h0 ⊢
    have er : ∀ w : Int64, r - w = loss - (paid + w) := fun w => by rw [← hr]; grind
    have hx : (if gL τ 8 0 j < r then gL τ 8 0 j else r) = if r ≤ gL τ 8 0 j then r else gL τ 8 0 j := by
      by_cases q : gL τ 8 0 j < r
      · rw [if_pos q, if_neg (fun q2 => by
          have h1 := (lt64 (a := gL τ 8 0 j) (b := r) rfl rfl).mp q
          have h2 := (le64 (a := r) (b := gL τ 8 0 j) rfl rfl).mp q2
          omega)]
      · rw [if_neg q, if_pos ((le64 (a := r) (b := gL τ 8 0 j) rfl rfl).mpr (by
          have h1 := mt (lt64 (a := gL τ 8 0 j) (b := r) rfl rfl).mpr q
          omega))]
    rw [hx]
    by_cases q : r ≤ gL τ 8 0 j
    · have q' := (le64 (a := r) (b := gL τ 8 0 j) rfl rfl).mp q
      rw [if_pos q, if_pos q, kst_d, kst_d]
      have hsub : (gL τ 8 0 j - r).toInt = (gL τ 8 0 j).toInt - r.toInt := sub64 rfl rfl (by omega) (by omega)
      have hG2 : G B (pL σ 1 j 0 (gL τ 8 0 j - r)) (pL (pL τ 8 0 j (gL τ 8 0 j - r)) 6 0 m z) := by
        rw [pL_comm _ (show 8 ≠ 6 by omega)]
        exact G_share hG j _
      refine ⟨_, pL τ 8 0 j (gL τ 8 0 j - r), paid + r, hG2, BS_share hb (by rw [hsub]; omega), FQ_share σ τ j _ _, ?_, ?_, rfl, by rw [er]⟩
      · rw [← er, sub64 rfl rfl (by omega) (by omega)]
        omega
      · have h9 := SH_put (τ := τ) hj (v := gL τ 8 0 j - r) (by rw [hsub]; omega) (by rw [hsub]; show _ ≤ (gL τ 8 0 j).toInt; omega)
        have e9 : shI τ j - (gL τ 8 0 j - r).toInt = r.toInt - (loss - (paid + r)).toInt := by rw [hsub, ← er, sub64 rfl rfl (by omega) (by omega)]; show (gL τ 8 0 j).toInt - _ = _; omega
        rw [e9] at h9
        exact h9
    · have q' := mt (le64 (a := r) (b := gL τ 8 0 j) rfl rfl).mpr q
      rw [if_neg q, if_neg q, kst_d, kst_d, kst_d]
      have hsub : (gL τ 8 0 j - gL τ 8 0 j).toInt = (gL τ 8 0 j).toInt - (gL τ 8 0 j).toInt := sub64 rfl rfl (by omega) (by omega)
      have hG2 : G B (pL σ 1 j 0 (gL τ 8 0 j - gL τ 8 0 j)) (pL (pL τ 8 0 j (gL τ 8 0 j - gL τ 8 0 j)) 6 0 m z) := by
        rw [pL_comm _ (show 8 ≠ 6 by omega)]
        exact G_share hG j _
      refine ⟨_, pL τ 8 0 j (gL τ 8 0 j - gL τ 8 0 j), paid + gL τ 8 0 j, hG2, BS_share hb (by rw [hsub]; omega), FQ_share σ τ j _ _, ?_, ?_, rfl, by rw [er]⟩
      · have hrb := Int64.toInt_lt r
        rw [← er, sub64 rfl rfl (by omega) (by omega)]
        omega
      · have hrb := Int64.toInt_lt r
        have h9 := SH_put (τ := τ) hj (v := gL τ 8 0 j - gL τ 8 0 j) (by rw [hsub]; omega) (by rw [hsub]; show _ ≤ (gL τ 8 0 j).toInt; omega)
        have e9 : shI τ j - (gL τ 8 0 j - gL τ 8 0 j).toInt = r.toInt - (loss - (paid + gL τ 8 0 j)).toInt := by rw [hsub, ← er, sub64 rfl rfl (by omega) (by omega)]; show (gL τ 8 0 j).toInt - _ = _; omega
        rw [e9] at h9
        exact h9
  · rw [if_pos c1, if_neg c1]
    have ez : pL τ 8 0 j (gL τ 8 0 j - 0) = τ := by rw [Int64.sub_zero, pL_self]
    rw [ez, Int64.sub_zero, kst_d, kst_d, kst_d, nI_1]
    exact ⟨σ, τ, paid, hG, hb, FQ_rfl σ τ, h0, by rw [Int.sub_self]; exact SH_rfl τ, rfl, rfl⟩
