/-! PURE: margin, and what is free -/
def mv (τ : St) (v p : Nat) : Int := (gI τ 2 0 (3 * v + p)).toInt
def imax (a b : Int) : Int := if a < b then b else a
def sLs (τ : St) (m v p : Nat) : Int := imax (-(ps τ (3 * m + p) + sRest τ m p 1) * mv τ v p) (-(ps τ (3 * m + p) - sRest τ m p 0) * mv τ v p)
def sLoss (τ : St) (m v : Nat) : Int := sLs τ m v 0 + sLs τ m v 1 + sLs τ m v 2
def sMarg (τ : St) (m : Nat) : Int := imax (imax (imax (imax 0 (sLoss τ m 0)) (sLoss τ m 1)) (sLoss τ m 2)) (sLoss τ m 3)
theorem mv_b {τ : St} (hQ : BQ τ) {v p : Nat} (hv : v < 4) (hp : p < 3) : -500 ≤ mv τ v p ∧ mv τ v p ≤ 500 := (hQ p hp).2.2.2 v hv
/-- the two products, bounded -/
theorem ls_b {τ : St} (hO : BO τ) (hP : BP τ) (hQ : BQ τ) {m v p : Nat} (hm : m < 5) (hv : v < 4) (hp : p < 3) :
    (-15000000 ≤ -(ps τ (3 * m + p) + sRest τ m p 1) * mv τ v p ∧ -(ps τ (3 * m + p) + sRest τ m p 1) * mv τ v p ≤ 15000000) ∧ (-15000000 ≤ -(ps τ (3 * m + p) - sRest τ m p 0) * mv τ v p ∧ -(ps τ (3 * m + p) - sRest τ m p 0) * mv τ v p ≤ 15000000) := by
  have h1 := ps_bnd hO hP (j := 3 * m + p) (by omega)
  have h2 := sRest_b hO m p 1
  have h3 := sRest_b hO m p 0
  have h4 := mv_b hQ hv hp
  exact ⟨mulB (A := 30000) (B := 500) (by omega) (by omega) h4.1 h4.2, mulB (A := 30000) (B := 500) (by omega) (by omega) h4.1 h4.2⟩
theorem sLs_b {τ : St} (hO : BO τ) (hP : BP τ) (hQ : BQ τ) {m v p : Nat} (hm : m < 5) (hv : v < 4) (hp : p < 3) : -15000000 ≤ sLs τ m v p ∧ sLs τ m v p ≤ 15000000 := by
  have h := ls_b hO hP hQ hm hv hp
  unfold sLs imax
  split <;> omega
theorem sLoss_b {τ : St} (hO : BO τ) (hP : BP τ) (hQ : BQ τ) {m v : Nat} (hm : m < 5) (hv : v < 4) : -45000000 ≤ sLoss τ m v ∧ sLoss τ m v ≤ 45000000 := by
  have h0 := sLs_b hO hP hQ hm hv (p := 0) (by omega)
  have h1 := sLs_b hO hP hQ hm hv (p := 1) (by omega)
  have h2 := sLs_b hO hP hQ hm hv (p := 2) (by omega)
  unfold sLoss
  omega
theorem sMarg_b {τ : St} (hO : BO τ) (hP : BP τ) (hQ : BQ τ) {m : Nat} (hm : m < 5) : 0 ≤ sMarg τ m ∧ sMarg τ m ≤ 45000000 := by
  have h0 := sLoss_b hO hP hQ hm (v := 0) (by omega)
  have h1 := sLoss_b hO hP hQ hm (v := 1) (by omega)
  have h2 := sLoss_b hO hP hQ hm (v := 2) (by omega)
  have h3 := sLoss_b hO hP hQ hm (v := 3) (by omega)
  unfold sMarg imax
  omega
-- the reference
theorem y_lossS {τ : St} (hO : BO τ) (hP : BP τ) (hQ : BQ τ) {β : Type} (K : Int32 → Int32 → Int32 → Int32 → Int32 → Option β) {m v p : Nat} (hm : m < 5) (hv : v < 4) (hp : p < 3) (n : Nat) (x w : Int32) {X : Int} (hx : x.toInt = X) (hb : -45000000 ≤ X + sLs τ m v p ∧ X + sLs τ m v p ≤ 45000000) :
    ∃ x', x'.toInt = X + sLs τ m v p ∧ fX6_marginOf_L15 τ K (n + 1) (nI p) x (nI v) w (nI m) = fX6_marginOf_L15 τ K n (nI (p + 1)) x' (nI v) w (nI m) := by
  rw [fX6_marginOf_L15.eq_2, if_neg (show ¬ (3 : Int32) ≤ nI p from nI_ge (a := p) (b := 3) hp (by omega)), if_gd (ixv v hv p hp).2, (ixv v hv p hp).1]
  simp only [kst, nI_1]
  rw [if_gd (ix3 m hm p hp).2, (ix3 m hm p hp).1]
  obtain ⟨r1, e1, t1⟩ := y_rest hO m p 1
  obtain ⟨r0, e0, t0⟩ := y_rest hO m p 0
  rw [e1, bd_some, e0, bd_some]
  have h1 := ps_bnd hO hP (j := 3 * m + p) (by omega)
  have h2 := sRest_b hO m p 1
  have h3 := sRest_b hO m p 0
  have h4 := mv_b hQ hv hp
  have h5 := ls_b hO hP hQ hm hv hp
  have a1 : (gI τ 4 0 (3 * m + p) + r1).toInt = ps τ (3 * m + p) + sRest τ m p 1 := add32 rfl t1 (by show _ ≤ ps τ _ + _; omega) (by show ps τ _ + _ < _; omega)
  have a0 : (gI τ 4 0 (3 * m + p) - r0).toInt = ps τ (3 * m + p) - sRest τ m p 0 := sub32 rfl t0 (by show _ ≤ ps τ _ - _; omega) (by show ps τ _ - _ < _; omega)
  have an : (-gI τ 2 0 (3 * v + p)).toInt = -mv τ v p := neg32 rfl (by show _ < mv τ v p; omega)
  have b1 : ((-gI τ 2 0 (3 * v + p)) * (gI τ 4 0 (3 * m + p) + r1)).toInt = -(ps τ (3 * m + p) + sRest τ m p 1) * mv τ v p := by
    have e : -mv τ v p * (ps τ (3 * m + p) + sRest τ m p 1) = -(ps τ (3 * m + p) + sRest τ m p 1) * mv τ v p := by rw [Int.neg_mul, Int.neg_mul, Int.mul_comm]
    rw [← e] at h5 ⊢
    exact mul32 an a1 (by omega) (by omega)
  have b0 : ((-gI τ 2 0 (3 * v + p)) * (gI τ 4 0 (3 * m + p) - r0)).toInt = -(ps τ (3 * m + p) - sRest τ m p 0) * mv τ v p := by
    have e : -mv τ v p * (ps τ (3 * m + p) - sRest τ m p 0) = -(ps τ (3 * m + p) - sRest τ m p 0) * mv τ v p := by rw [Int.neg_mul, Int.neg_mul, Int.mul_comm]
    rw [← e] at h5 ⊢
    exact mul32 an a0 (by omega) (by omega)
  generalize hB1 : -(ps τ (3 * m + p) + sRest τ m p 1) * mv τ v p = B1 at b1 h5
  generalize hB0 : -(ps τ (3 * m + p) - sRest τ m p 0) * mv τ v p = B0 at b0 h5
  have hs : sLs τ m v p = if B1 < B0 then B0 else B1 := by unfold sLs imax; rw [hB1, hB0]
  rw [hs] at hb ⊢
  by_cases c : (-gI τ 2 0 (3 * v + p)) * (gI τ 4 0 (3 * m + p) + r1) ≤ (-gI τ 2 0 (3 * v + p)) * (gI τ 4 0 (3 * m + p) - r0)
  · rw [if_pos c]
    have c' := (le32 b1 b0).mp c
    refine ⟨_, ?_, rfl⟩
    have e : (if B1 < B0 then B0 else B1) = B0 := by split <;> omega
    rw [e] at hb ⊢
    exact add32 hx b0 (by omega) (by omega)
  · rw [if_neg c]
    have c' := mt (le32 b1 b0).mpr c
    refine ⟨_, ?_, rfl⟩
    have e : (if B1 < B0 then B0 else B1) = B1 := by split <;> omega
    rw [e] at hb ⊢
    exact add32 hx b1 (by omega) (by omega)
theorem y_margS {τ : St} (hO : BO τ) (hP : BP τ) (hQ : BQ τ) {m v : Nat} (hm : m < 5) (hv : v < 4) (n : Nat) (w : Int32) {X : Int} (hw : w.toInt = X) :
    ∃ w', w'.toInt = imax X (sLoss τ m v) ∧ fX6_marginOf_L4 τ (n + 1) (nI v) w (nI m) = fX6_marginOf_L4 τ n (nI (v + 1)) w' (nI m) := by
  rw [fX6_marginOf_L4.eq_2, if_neg (show ¬ (4 : Int32) ≤ nI v from nI_ge (a := v) (b := 4) hv (by omega))]
  have l0 := sLs_b hO hP hQ hm hv (p := 0) (by omega)
  have l1 := sLs_b hO hP hQ hm hv (p := 1) (by omega)
  have l2 := sLs_b hO hP hQ hm hv (p := 2) (by omega)
  generalize hK : (fun (y15 y16 y17 y18 y19 : Int32) => if y16 ≤ y18 then kst (y17 + 1) (fun x21 => fX6_marginOf_L4 τ n x21 y18 y19) else kst (y17 + 1) (fun x22 => fX6_marginOf_L4 τ n x22 y16 y19)) = K
  obtain ⟨x1, t1, e1⟩ := y_lossS hO hP hQ K hm hv (p := 0) (by omega) 999 0 w (X := 0) rfl (by omega)
  obtain ⟨x2, t2, e2⟩ := y_lossS hO hP hQ K hm hv (p := 1) (by omega) 998 x1 w t1 (by omega)
  obtain ⟨x3, t3, e3⟩ := y_lossS hO hP hQ K hm hv (p := 2) (by omega) 997 x2 w t2 (by omega)
  have e4 : fX6_marginOf_L15 τ K 997 (nI 3) x3 (nI v) w (nI m) = K (nI 3) x3 (nI v) w (nI m) := by
    show fX6_marginOf_L15 τ K (996 + 1) _ _ _ _ _ = _
    rw [fX6_marginOf_L15.eq_2, if_pos (show (3 : Int32) ≤ nI 3 by decide)]
  have e5 : fX6_marginOf_L15 τ K 1000 0 0 (nI v) w (nI m) = K (nI 3) x3 (nI v) w (nI m) := (e1.trans e2).trans (e3.trans e4)
  rw [e5, ← hK]
  have t3 : x3.toInt = sLoss τ m v := by rw [t3]; unfold sLoss; omega
  simp only [kst, nI_1]
  by_cases c : x3 ≤ w
  · rw [if_pos c]
    have := (le32 t3 hw).mp c
    exact ⟨w, by rw [hw]; unfold imax; rw [if_neg (by omega)], rfl⟩
  · rw [if_neg c]
    have := mt (le32 t3 hw).mpr c
    exact ⟨x3, by rw [t3]; unfold imax; rw [if_pos (by omega)], rfl⟩
theorem y_marg {τ : St} (hO : BO τ) (hP : BP τ) (hQ : BQ τ) {m : Nat} (hm : m < 5) : ∃ w, fX6_marginOf τ (nI m) = some w ∧ w.toInt = sMarg τ m := by
  unfold fX6_marginOf
  obtain ⟨w1, t1, e1⟩ := y_margS hO hP hQ hm (v := 0) (by omega) 999 0 (X := 0) rfl
  obtain ⟨w2, t2, e2⟩ := y_margS hO hP hQ hm (v := 1) (by omega) 998 w1 t1
  obtain ⟨w3, t3, e3⟩ := y_margS hO hP hQ hm (v := 2) (by omega) 997 w2 t2
  obtain ⟨w4, t4, e4⟩ := y_margS hO hP hQ hm (v := 3) (by omega) 996 w3 t3
  have e5 : fX6_marginOf_L4 τ 996 (nI 4) w4 (nI m) = some w4 := by
    show fX6_marginOf_L4 τ (995 + 1) _ _ _ = _
    rw [fX6_marginOf_L4.eq_2, if_pos (show (4 : Int32) ≤ nI 4 by decide)]
  exact ⟨w4, (e1.trans e2).trans ((e3.trans e4).trans e5), t4⟩
-- the one that is checked
theorem x_lossS {σ τ : St} (hIQ : IQ σ τ) {β : Type} (K : St → Int32 → Int64 → Int64 → Int64 → Int32 → Int32 → Option β) {v p : Nat} (hv : v < 4) (hp : p < 3) (n : Nat) (s b x : Int64) (a : Int32) :
    fX5_marginOf_L65 K (n + 1) σ (nI v) s b x (nI p) a = fX5_marginOf_L65 K n (pL σ 16 0 v (gL σ 16 0 v + (if (-s) * (gI τ 2 0 (3 * v + p)).toInt64 < (-b) * (gI τ 2 0 (3 * v + p)).toInt64 then (-b) * (gI τ 2 0 (3 * v + p)).toInt64 else (-s) * (gI τ 2 0 (3 * v + p)).toInt64))) (nI (v + 1)) s b x (nI p) a := by
  rw [fX5_marginOf_L65.eq_2, if_neg (show ¬ (4 : Int32) ≤ nI v from nI_ge (a := v) (b := 4) hv (by omega)), if_gd (vin_nI hp (by omega)), if_gd (vin_nI hv (by omega)), clamp_nI (show p < 2147483648 by omega), clamp_nI (show v < 2147483648 by omega), (hIQ p hp).2.2 v hv]
  simp only [kst, nI_1]
theorem IQ_scr {σ σ1 τ : St} (h : scr σ σ1) (hI : IQ σ τ) : IQ σ1 τ := fun p hp => by
  obtain ⟨h1, h2, h3⟩ := hI p hp
  exact ⟨(scr_gI h ..).trans h1, (scr_gI h ..).trans h2, fun v hv => (scr_gI h ..).trans (h3 v hv)⟩
theorem IO_scr {σ σ1 τ : St} (h : scr σ σ1) (hI : IO σ τ) : IO σ1 τ := by
  refine ⟨(scr_gN h _).trans hI.1, fun k hk => ?_⟩
  obtain ⟨h1, h2, h3, h4, h5, h6⟩ := hI.2 k hk
  exact ⟨(scr_gI h ..).trans h1, (scr_gI h ..).trans h2, (scr_gI h ..).trans h3, (scr_gI h ..).trans h4, (scr_gI h ..).trans h5, (scr_gI h ..).trans h6⟩
theorem IN_scr {σ σ1 : St} (h : scr σ σ1) (hI : IN σ) : IN σ1 := by
  unfold IN
  simp only [scr_gN h]
  exact hI
theorem IP_scr {σ σ1 τ : St} (h : scr σ σ1) (hI : IP σ τ) : IP σ1 τ := fun m hm p hp => ⟨(scr_gI h ..).trans (hI m hm p hp).1, (scr_gL h _ _ _ (by decide)).trans (hI m hm p hp).2⟩
theorem IA_scr {σ σ1 τ : St} (h : scr σ σ1) (hI : IA σ τ) : IA σ1 τ := fun m hm => by
  obtain ⟨h1, h2, h3⟩ := hI m hm
  exact ⟨(scr_gL h _ _ _ (by decide)).trans h1, (scr_gL h _ _ _ (by decide)).trans h2, (scr_gI h ..).trans h3⟩
theorem IU_scr {σ σ1 τ : St} (h : scr σ σ1) (hI : IU σ τ) : IU σ1 τ := fun m hm k hk => (scr_gI h ..).trans (hI m hm k hk)
theorem IK_scr {σ σ1 τ : St} (h : scr σ σ1) (hI : IK σ τ) : IK σ1 τ := fun k hk => by
  obtain ⟨h1, h2⟩ := hI k hk
  exact ⟨(scr_gI h ..).trans h1, by simp only [scr_gI h]; exact h2⟩
theorem IW_scr {σ σ1 τ : St} (h : scr σ σ1) (hI : IW σ τ) : IW σ1 τ := ⟨(scr_gI h ..).trans hI.1, (scr_gL h _ _ _ (by decide)).trans hI.2⟩
