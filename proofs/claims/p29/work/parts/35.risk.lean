/-! PURE: risks, the order of closing -/
/-- not by its meaning alone: a kernel that unfolds the loop behind it runs away -/
theorem kst_d {α β : Type} (x : α) (k : α → β) : kst x k = k x := by rw [kst]
def rx (τ : St) (m v p : Nat) : Int := -(ps τ (3 * m + p)) * mv τ v p
def sRisk (τ : St) (m p : Nat) : Int := imax (imax (imax (rx τ m 0 p) (rx τ m 1 p)) (rx τ m 2 p)) (rx τ m 3 p)
theorem rx_b {τ : St} (hO : BO τ) (hP : BP τ) (hQ : BQ τ) {m v p : Nat} (hm : m < 5) (hv : v < 4) (hp : p < 3) : -10000000 ≤ rx τ m v p ∧ rx τ m v p ≤ 10000000 := by
  have h1 := ps_bnd hO hP (j := 3 * m + p) (by omega)
  have h4 := mv_b hQ hv hp
  exact mulB (A := 20000) (B := 500) (by omega) (by omega) h4.1 h4.2
theorem x_rx {σ τ : St} (hIQ : IQ σ τ) (hO : BO τ) (hP : BP τ) (hQ : BQ τ) {m v p : Nat} (hm : m < 5) (hv : v < 4) (hp : p < 3) : ((-(gI τ 4 0 (3 * m + p)).toInt64) * (gI σ 8 p v).toInt64).toInt = rx τ m v p := by
  have h1 := ps_bnd hO hP (j := 3 * m + p) (by omega)
  have h2 := rx_b hO hP hQ hm hv hp
  rw [(hIQ p hp).2.2 v hv]
  have e : (-(gI τ 4 0 (3 * m + p)).toInt64).toInt = -ps τ (3 * m + p) := neg64 (wid rfl) (by show _ < ps τ _; omega)
  exact mul64 e (wid rfl) (by show _ ≤ _ * mv τ v p; unfold rx at h2; omega) (by show _ * mv τ v p < _; unfold rx at h2; omega)
theorem y_rx {τ : St} (hO : BO τ) (hP : BP τ) (hQ : BQ τ) {m v p : Nat} (hm : m < 5) (hv : v < 4) (hp : p < 3) : ((-gI τ 2 0 (3 * v + p)) * gI τ 4 0 (3 * m + p)).toInt = rx τ m v p := by
  have h2 := rx_b hO hP hQ hm hv hp
  have h4 := mv_b hQ hv hp
  have e : (-gI τ 2 0 (3 * v + p)).toInt = -mv τ v p := neg32 rfl (by show _ < mv τ v p; omega)
  have e2 : rx τ m v p = -mv τ v p * ps τ (3 * m + p) := by unfold rx; rw [Int.neg_mul, Int.neg_mul, Int.mul_comm]
  rw [e2] at h2 ⊢
  exact mul32 e rfl (by show _ ≤ _ * ps τ _; omega) (by show _ * ps τ _ < _; omega)
theorem x_riskS {σ τ : St} (hIQ : IQ σ τ) (hO : BO τ) (hP : BP τ) (hQ : BQ τ) {m v p : Nat} (hm : m < 5) (hv : v < 4) (hp : p < 3) (n : Nat) (w : Int64) {X : Int} (hw : w.toInt = X) (a b : Int32) :
    ∃ w', w'.toInt = imax X (rx τ m v p) ∧ fX5_riskOf_L37 σ (n + 1) (nI v) w p (gI τ 4 0 (3 * m + p)).toInt64 a b = fX5_riskOf_L37 σ n (nI (v + 1)) w' p (gI τ 4 0 (3 * m + p)).toInt64 a b := by
  rw [fX5_riskOf_L37.eq_2, if_neg (show ¬ (4 : Int32) ≤ nI v from nI_ge (a := v) (b := 4) hv (by omega)), if_gd (vin_nI hv (by omega)), clamp_nI (show v < 2147483648 by omega)]
  simp only [kst_d, nI_1]
  have hx := x_rx hIQ hO hP hQ hm hv hp
  refine ⟨_, ?_, rfl⟩
  unfold imax
  by_cases c : (-(gI τ 4 0 (3 * m + p)).toInt64) * (gI σ 8 p v).toInt64 < w
  · have c' := (lt64 hx hw).mp c
    rw [if_pos c, if_neg (by omega), hw]
  · have c' := mt (lt64 hx hw).mpr c
    rw [if_neg c, hx]
    split <;> omega
theorem x_risk {σ τ : St} (hIP : IP σ τ) (hIQ : IQ σ τ) (hO : BO τ) (hP : BP τ) (hQ : BQ τ) {m p : Nat} (hm : m < 5) (hp : p < 3) : ∃ r, fX5_riskOf σ (nI m) (nI p) = some r ∧ r.toInt = sRisk τ m p := by
  unfold fX5_riskOf
  rw [if_gd (vin_nI hm (by omega)), if_gd (vin_nI hp (by omega)), clamp_nI (show m < 2147483648 by omega), clamp_nI (show p < 2147483648 by omega), (hIP m hm p hp).1]
  simp only [kst_d]
  rw [show (0 : Int32).toNatClampNeg = 0 from by decide]
  have t0 := x_rx hIQ hO hP hQ hm (v := 0) (by omega) hp
  obtain ⟨w1, t1, e1⟩ := x_riskS hIQ hO hP hQ hm (v := 1) (by omega) hp 999 _ t0 (nI m) (nI p)
  obtain ⟨w2, t2, e2⟩ := x_riskS hIQ hO hP hQ hm (v := 2) (by omega) hp 998 w1 t1 (nI m) (nI p)
  obtain ⟨w3, t3, e3⟩ := x_riskS hIQ hO hP hQ hm (v := 3) (by omega) hp 997 w2 t2 (nI m) (nI p)
  refine ⟨w3, ?_, t3⟩
  generalize hA : (-(gI τ 4 0 (3 * m + p)).toInt64) * (gI σ 8 p 0).toInt64 = A at e1 ⊢
  generalize hB : (gI τ 4 0 (3 * m + p)).toInt64 = B at e1 e2 e3 ⊢
  show fX5_riskOf_L37 σ (999 + 1) (nI 1) A p B (nI m) (nI p) = some w3
  rw [e1]
  show fX5_riskOf_L37 σ (998 + 1) (nI 2) w1 p B (nI m) (nI p) = some w3
  rw [e2]
  show fX5_riskOf_L37 σ (997 + 1) (nI 3) w2 p B (nI m) (nI p) = some w3
  rw [e3]
  show fX5_riskOf_L37 σ (996 + 1) (nI 4) w3 p B (nI m) (nI p) = some w3
  rw [fX5_riskOf_L37.eq_2, if_pos (show (4 : Int32) ≤ nI 4 by decide)]
