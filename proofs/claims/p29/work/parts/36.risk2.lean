/-! PURE: risks of the reference, ranks, the next one to be closed -/
theorem y_riskS {τ : St} (hO : BO τ) (hP : BP τ) (hQ : BQ τ) {m v p : Nat} (hm : m < 5) (hv : v < 4) (hp : p < 3) (n : Nat) (w : Int32) {X : Int} (hw : w.toInt = X) :
    ∃ w', w'.toInt = imax X (rx τ m v p) ∧ fX6_riskOf_L22 τ (n + 1) (nI v) w (nI m) (nI p) = fX6_riskOf_L22 τ n (nI (v + 1)) w' (nI m) (nI p) := by
  rw [fX6_riskOf_L22.eq_2, if_neg (show ¬ (4 : Int32) ≤ nI v from nI_ge (a := v) (b := 4) hv (by omega)), if_gd (ixv v hv p hp).2, if_gd (ix3 m hm p hp).2, (ixv v hv p hp).1, (ix3 m hm p hp).1]
  simp only [kst_d, nI_1]
  have hx := y_rx hO hP hQ hm hv hp
  unfold imax
  by_cases c : (-gI τ 2 0 (3 * v + p)) * gI τ 4 0 (3 * m + p) ≤ w
  · have c' := (le32 hx hw).mp c
    rw [if_pos c]
    exact ⟨w, by rw [if_neg (by omega), hw], rfl⟩
  · have c' := mt (le32 hx hw).mpr c
    rw [if_neg c]
    exact ⟨_, by rw [hx, if_pos (by omega)], rfl⟩
theorem y_risk {τ : St} (hO : BO τ) (hP : BP τ) (hQ : BQ τ) {m p : Nat} (hm : m < 5) (hp : p < 3) : ∃ r, fX6_riskOf τ (nI m) (nI p) = some r ∧ r.toInt = sRisk τ m p := by
  unfold fX6_riskOf
  rw [if_gd (vin_nI (show p < 12 by omega) (by omega)), if_gd (ix3 m hm p hp).2, (ix3 m hm p hp).1, clamp_nI (show p < 2147483648 by omega)]
  simp only [kst_d]
  have t0 := y_rx hO hP hQ hm (v := 0) (by omega) hp
  rw [show 3 * 0 + p = p by omega] at t0
  obtain ⟨w1, t1, e1⟩ := y_riskS hO hP hQ hm (v := 1) (by omega) hp 999 _ t0
  obtain ⟨w2, t2, e2⟩ := y_riskS hO hP hQ hm (v := 2) (by omega) hp 998 w1 t1
  obtain ⟨w3, t3, e3⟩ := y_riskS hO hP hQ hm (v := 3) (by omega) hp 997 w2 t2
  refine ⟨w3, (e1.trans e2).trans (e3.trans ?_), t3⟩
  show fX6_riskOf_L22 τ (996 + 1) _ _ _ _ = _
  rw [fX6_riskOf_L22.eq_2, if_pos (show (4 : Int32) ≤ nI 4 by decide)]
-- ranks
def gB (R : Nat → Int) (o p : Nat) : Nat := if R p < R o then 1 else if R o = R p then (if o < p then 1 else 0) else 0
def rk (R : Nat → Int) (p : Nat) : Nat := gB R 0 p + gB R 1 p + gB R 2 p
theorem gB_c (R : Nat → Int) (o p : Nat) : (gB R o p = 1 ∧ (R p < R o ∨ (R o = R p ∧ o < p))) ∨ (gB R o p = 0 ∧ ¬ (R p < R o ∨ (R o = R p ∧ o < p))) := by
  unfold gB
  by_cases c1 : R p < R o
  · rw [if_pos c1]; exact Or.inl ⟨rfl, Or.inl c1⟩
  · rw [if_neg c1]
    by_cases c2 : R o = R p
    · rw [if_pos c2]
      by_cases c3 : o < p
      · rw [if_pos c3]; exact Or.inl ⟨rfl, Or.inr ⟨c2, c3⟩⟩
      · rw [if_neg c3]; exact Or.inr ⟨rfl, by omega⟩
    · rw [if_neg c2]; exact Or.inr ⟨rfl, by omega⟩
theorem gB_0 (R : Nat → Int) (p : Nat) : gB R p p = 0 := by
  rcases gB_c R p p with h | h
  · omega
  · exact h.1
theorem rk_lt3 {r0 r1 r2 : Int} {a01 a02 a10 a12 a20 a21 : Nat} (h01 : (a01 = 1 ∧ r1 ≤ r0) ∨ (a01 = 0 ∧ r0 < r1)) (h02 : (a02 = 1 ∧ r2 ≤ r0) ∨ (a02 = 0 ∧ r0 < r2)) (h12 : (a12 = 1 ∧ r2 ≤ r1) ∨ (a12 = 0 ∧ r1 < r2)) (h10 : a10 = 1 - a01) (h20 : a20 = 1 - a02) (h21 : a21 = 1 - a12) :
    (a10 + a20 ≤ 2 ∧ a01 + a21 ≤ 2 ∧ a02 + a12 ≤ 2) ∧ (r1 ≤ r0 ↔ a10 + a20 < a01 + a21) ∧ (r2 ≤ r0 ↔ a10 + a20 < a02 + a12) ∧ (r2 ≤ r1 ↔ a01 + a21 < a02 + a12) ∧ (r0 < r1 ↔ a01 + a21 < a10 + a20) ∧ (r0 < r2 ↔ a02 + a12 < a10 + a20) ∧ (r1 < r2 ↔ a02 + a12 < a01 + a21) := by
  rcases h01 with ⟨rfl, h01⟩ | ⟨rfl, h01⟩ <;> rcases h02 with ⟨rfl, h02⟩ | ⟨rfl, h02⟩ <;> rcases h12 with ⟨rfl, h12⟩ | ⟨rfl, h12⟩ <;> subst h10 h20 h21 <;> omega
theorem rk_all (R : Nat → Int) : (rk R 0 ≤ 2 ∧ rk R 1 ≤ 2 ∧ rk R 2 ≤ 2) ∧ (R 1 ≤ R 0 ↔ rk R 0 < rk R 1) ∧ (R 2 ≤ R 0 ↔ rk R 0 < rk R 2) ∧ (R 2 ≤ R 1 ↔ rk R 1 < rk R 2) ∧ (R 0 < R 1 ↔ rk R 1 < rk R 0) ∧ (R 0 < R 2 ↔ rk R 2 < rk R 0) ∧ (R 1 < R 2 ↔ rk R 2 < rk R 1) := by
  have h01 := gB_c R 0 1
  have h02 := gB_c R 0 2
  have h10 := gB_c R 1 0
  have h12 := gB_c R 1 2
  have h20 := gB_c R 2 0
  have h21 := gB_c R 2 1
  have e0 : rk R 0 = gB R 1 0 + gB R 2 0 := by unfold rk; rw [gB_0, Nat.zero_add]
  have e1 : rk R 1 = gB R 0 1 + gB R 2 1 := by unfold rk; rw [gB_0, Nat.add_zero]
  have e2 : rk R 2 = gB R 0 2 + gB R 1 2 := by unfold rk; rw [gB_0, Nat.add_zero]
  rw [e0, e1, e2]
  exact rk_lt3 (by omega) (by omega) (by omega) (by omega) (by omega) (by omega)
theorem rk_lt {R : Nat → Int} {p q : Nat} (hp : p < 3) (hq : q < 3) (hn : p ≠ q) : (R q < R p ∨ (R p = R q ∧ p < q)) ↔ rk R p < rk R q := by
  obtain ⟨-, h1, h2, h3, h4, h5, h6⟩ := rk_all R
  rcases (show p = 0 ∨ p = 1 ∨ p = 2 by omega) with rfl | rfl | rfl <;> rcases (show q = 0 ∨ q = 1 ∨ q = 2 by omega) with rfl | rfl | rfl
  · exact absurd rfl hn
  · rw [← h1]; omega
  · rw [← h2]; omega
  · rw [← h4]; omega
  · exact absurd rfl hn
  · rw [← h3]; omega
  · rw [← h5]; omega
  · rw [← h6]; omega
  · exact absurd rfl hn
theorem rk_3 (R : Nat → Int) {p : Nat} (hp : p < 3) : rk R p < 3 := by
  obtain ⟨⟨h1, h2, h3⟩, -⟩ := rk_all R
  rcases (show p = 0 ∨ p = 1 ∨ p = 2 by omega) with rfl | rfl | rfl <;> omega
theorem rk_inj {R : Nat → Int} {p q : Nat} (hp : p < 3) (hq : q < 3) (h : rk R p = rk R q) : p = q := by
  rcases Nat.decEq p q with hn | e
  · have h1 := (rk_lt (R := R) hp hq hn)
    have h2 := (rk_lt (R := R) hq hp (Ne.symm hn))
    omega
  · exact e
theorem rk_ex (R : Nat → Int) {i : Nat} (hi : i < 3) : ∃ p, p < 3 ∧ rk R p = i := by
  have h0 := rk_3 R (p := 0) (by omega)
  have h1 := rk_3 R (p := 1) (by omega)
  have h2 := rk_3 R (p := 2) (by omega)
  have n1 : rk R 0 ≠ rk R 1 := fun e => absurd (rk_inj (by omega) (by omega) e) (by omega)
  have n2 : rk R 0 ≠ rk R 2 := fun e => absurd (rk_inj (by omega) (by omega) e) (by omega)
  have n3 : rk R 1 ≠ rk R 2 := fun e => absurd (rk_inj (by omega) (by omega) e) (by omega)
  by_cases c0 : rk R 0 = i
  · exact ⟨0, by omega, c0⟩
  · by_cases c1 : rk R 1 = i
    · exact ⟨1, by omega, c1⟩
    · exact ⟨2, by omega, by omega⟩
theorem x_ahead {σ τ : St} (hIP : IP σ τ) (hIQ : IQ σ τ) (hO : BO τ) (hP : BP τ) (hQ : BQ τ) {m o p : Nat} (hm : m < 5) (ho : o < 3) (hp : p < 3) : fX5_goesAhead σ (nI m) (nI o) (nI p) = some (nI (gB (sRisk τ m) o p)) := by
  obtain ⟨r1, e1, t1⟩ := x_risk hIP hIQ hO hP hQ hm ho
  obtain ⟨r2, e2, t2⟩ := x_risk hIP hIQ hO hP hQ hm hp
  unfold fX5_goesAhead gB
  rw [e1, bd_some, e2, bd_some]
  by_cases c1 : r2 < r1
  · rw [if_pos c1, if_pos ((lt64 t2 t1).mp c1)]
    rfl
  · rw [if_neg c1, if_neg (mt (lt64 t2 t1).mpr c1)]
    by_cases c2 : r1 = r2
    · rw [if_neg (not_not_intro c2), if_pos ((eq64 t1 t2).mp c2)]
      by_cases c3 : o < p
      · rw [if_neg (nI_ge c3 (by omega)), if_pos c3]
        rfl
      · rw [if_pos (nI_le (by omega) (by omega)), if_neg c3]
        rfl
    · rw [if_pos c2, if_neg (mt (eq64 t1 t2).mpr c2)]
      rfl
theorem gB_1 (R : Nat → Int) (o p : Nat) : gB R o p = 0 ∨ gB R o p = 1 := by unfold gB; split <;> (try split) <;> (try split) <;> simp
theorem x_rankS {σ τ : St} (hIP : IP σ τ) (hIQ : IQ σ τ) (hO : BO τ) (hP : BP τ) (hQ : BQ τ) {β : Type} (K : St → Int32 → Int32 → Int32 → Int32 → Option (β × Nat × Nat)) {m o p r : Nat} (hm : m < 5) (ho : o < 3) (hp : p < 3) (n : Nat) :
    fX5_productsByRisk_L17 K (n + 1) σ (nI o) (nI r) (nI p) (nI m) = fX5_productsByRisk_L17 K n σ (nI (o + 1)) (nI (r + gB (sRisk τ m) o p)) (nI p) (nI m) := by
  rw [fX5_productsByRisk_L17.eq_2, if_neg (show ¬ (3 : Int32) ≤ nI o from nI_ge (a := o) (b := 3) ho (by omega)), x_ahead hIP hIQ hO hP hQ hm ho hp, bd_some]
  simp only [kst_d, nI_1]
  rcases gB_1 (sRisk τ m) o p with e | e
  · rw [e, if_pos (show nI 0 = 0 from rfl), Int32.add_zero]
    rfl
  · rw [e, if_neg (show ¬ nI 1 = 0 by decide)]
theorem x_orderS {σ τ : St} (hIP : IP σ τ) (hIQ : IQ σ τ) (hO : BO τ) (hP : BP τ) (hQ : BQ τ) {m p : Nat} (hm : m < 5) (hp : p < 3) (n : Nat) :
    fX5_productsByRisk_L6 (n + 1) σ (nI p) (nI m) = fX5_productsByRisk_L6 n (pI σ 19 0 (rk (sRisk τ m) p) (nI p)) (nI (p + 1)) (nI m) := by
  rw [fX5_productsByRisk_L6.eq_2, if_neg (show ¬ (3 : Int32) ≤ nI p from nI_ge (a := p) (b := 3) hp (by omega))]
  have e : ∀ (K : St → Int32 → Int32 → Int32 → Int32 → Option (St × Nat × Nat)), fX5_productsByRisk_L17 K 1000 σ 0 0 (nI p) (nI m) = K σ (nI 3) (nI (rk (sRisk τ m) p)) (nI p) (nI m) := fun K => by
    show fX5_productsByRisk_L17 K (999 + 1) σ (nI 0) (nI 0) (nI p) (nI m) = _
    rw [x_rankS hIP hIQ hO hP hQ K hm (by omega) hp, x_rankS hIP hIQ hO hP hQ K hm (by omega) hp, x_rankS hIP hIQ hO hP hQ K hm (by omega) hp, fX5_productsByRisk_L17.eq_2, if_pos (show (3 : Int32) ≤ nI 3 by decide)]
    show K σ (nI 3) (nI (0 + gB (sRisk τ m) 0 p + gB (sRisk τ m) 1 p + gB (sRisk τ m) 2 p)) (nI p) (nI m) = _
    rw [Nat.zero_add]
    rfl
  rw [e]
  have h3 := rk_3 (sRisk τ m) hp
  rw [if_neg (show ¬ (3 : Int32) ≤ nI (rk (sRisk τ m) p) from nI_ge (a := rk (sRisk τ m) p) (b := 3) h3 (by omega)), if_gd (vin_nI h3 (by omega)), clamp_nI (show rk (sRisk τ m) p < 2147483648 by omega)]
  simp only [kst_d, nI_1]
def ordS (R : Nat → Int) (σ : St) : St := pI (pI (pI (newQ σ) 19 0 (rk R 0) (nI 0)) 19 0 (rk R 1) (nI 1)) 19 0 (rk R 2) (nI 2)
theorem x_order {σ τ : St} (hIP : IP σ τ) (hIQ : IQ σ τ) (hO : BO τ) (hP : BP τ) (hQ : BQ τ) {m : Nat} (hm : m < 5) : fX5_productsByRisk σ (nI m) = some (ordS (sRisk τ m) σ, 1, 3) := by
  unfold fX5_productsByRisk
  have e : fX5_productsByRisk_L6 1000 (newQ σ) 0 (nI m) = some (ordS (sRisk τ m) σ, 0, 0) := by
    show fX5_productsByRisk_L6 (999 + 1) (newQ σ) (nI 0) (nI m) = _
    rw [x_orderS (τ := τ) (σ := newQ σ) (p := 0) hIP hIQ hO hP hQ hm (by omega)]
    show fX5_productsByRisk_L6 (998 + 1) _ (nI 1) (nI m) = _
    rw [x_orderS (τ := τ) (σ := pI (newQ σ) 19 0 (rk (sRisk τ m) 0) (nI 0)) (p := 1) hIP hIQ hO hP hQ hm (by omega)]
    show fX5_productsByRisk_L6 (997 + 1) _ (nI 2) (nI m) = _
    rw [x_orderS (τ := τ) (σ := pI (pI (newQ σ) 19 0 (rk (sRisk τ m) 0) (nI 0)) 19 0 (rk (sRisk τ m) 1) (nI 1)) (p := 2) hIP hIQ hO hP hQ hm (by omega), fX5_productsByRisk_L6.eq_2, if_pos (show (3 : Int32) ≤ nI 3 by decide)]
    rfl
  rw [e]
  rfl
theorem ordS_at (R : Nat → Int) (σ : St) {p : Nat} (hp : p < 3) : gI (ordS R σ) 19 0 (rk R p) = nI p := by
  unfold ordS
  rw [gI_pI]
  by_cases c2 : p = 2
  · subst c2
    rw [if_pos ⟨rfl, rfl, rfl⟩]
  · have n2 : rk R p ≠ rk R 2 := fun e => c2 (rk_inj hp (by omega) e)
    rw [if_neg (fun q => n2 q.2.2), gI_pI]
    by_cases c1 : p = 1
    · subst c1
      rw [if_pos ⟨rfl, rfl, rfl⟩]
    · have n1 : rk R p ≠ rk R 1 := fun e => c1 (rk_inj hp (by omega) e)
      have c0 : p = 0 := by omega
      subst c0
      rw [if_neg (fun q => n1 q.2.2), gI_pI, if_pos ⟨rfl, rfl, rfl⟩]
-- the reference's next one
def opp (τ : St) (p : Nat) : Prop := ¬ gI τ 18 0 p = 0
def nxt (τ : St) (R : Nat → Int) (i : Nat) (v : Int32) : Prop := (v = -1 ∧ ∀ q, q < i → ¬ opp τ q) ∨ ∃ j, j < i ∧ v = nI j ∧ opp τ j ∧ ∀ q, q < i → opp τ q → q ≠ j → R q < R j ∨ (R j = R q ∧ j < q)
theorem nx_S {τ : St} {R : Nat → Int} (hR : ∀ p, p < 3 → (gI τ 17 0 p).toInt = R p) {i : Nat} (hi : i < 3) (n : Nat) (v : Int32) (h : nxt τ R i v) : ∃ v', nxt τ R (i + 1) v' ∧ fX6_nextOpen_L4 τ (n + 1) (nI i) v = fX6_nextOpen_L4 τ n (nI (i + 1)) v' := by
  rw [fX6_nextOpen_L4.eq_2, if_neg (show ¬ (3 : Int32) ≤ nI i from nI_ge (a := i) (b := 3) hi (by omega)), if_gd (vin_nI hi (by omega)), clamp_nI (show i < 2147483648 by omega)]
  simp only [kst_d, nI_1]
  by_cases c : gI τ 18 0 i = 0
  · rw [if_pos c]
    refine ⟨v, ?_, rfl⟩
    rcases h with ⟨h1, h2⟩ | ⟨j, h1, h2, h3, h4⟩
    · refine Or.inl ⟨h1, fun q hq => ?_⟩
      rcases Nat.lt_or_ge q i with a | a
      · exact h2 q a
      · rw [show q = i by omega]; exact not_not_intro c
    · refine Or.inr ⟨j, by omega, h2, h3, fun q hq ho hn => ?_⟩
      rcases Nat.lt_or_ge q i with a | a
      · exact h4 q a ho hn
      · rw [show q = i by omega] at ho; exact absurd c ho
  · rw [if_neg c]
    rcases h with ⟨rfl, h2⟩ | ⟨j, h1, rfl, h3, h4⟩
    · rw [if_pos rfl]
      refine ⟨nI i, Or.inr ⟨i, by omega, rfl, c, fun q hq ho hn => absurd ho (h2 q (by omega))⟩, rfl⟩
    · rw [if_neg (nI_ne1 (by omega)), if_gd (vin_nI (show j < 3 by omega) (by omega)), clamp_nI (show j < 2147483648 by omega)]
      by_cases d : gI τ 17 0 i ≤ gI τ 17 0 j
      · have d' := (le32 (hR i hi) (hR j (by omega))).mp d
        rw [if_pos d]
        refine ⟨nI j, Or.inr ⟨j, by omega, rfl, h3, fun q hq ho hn => ?_⟩, rfl⟩
        rcases Nat.lt_or_ge q i with a | a
        · exact h4 q a ho hn
        · rw [show q = i by omega]; omega
      · have d' := mt (le32 (hR i hi) (hR j (by omega))).mpr d
        rw [if_neg d]
        refine ⟨nI i, Or.inr ⟨i, by omega, rfl, c, fun q hq ho hn => ?_⟩, rfl⟩
        by_cases e : q = j
        · subst e; omega
        · have := h4 q (by omega) ho e
          omega
theorem nx_of {τ : St} {R : Nat → Int} (hR : ∀ p, p < 3 → (gI τ 17 0 p).toInt = R p) : ∃ v, fX6_nextOpen τ = some v ∧ nxt τ R 3 v := by
  obtain ⟨v1, m1, e1⟩ := nx_S hR (i := 0) (by omega) 999 (-1) (Or.inl ⟨rfl, fun q hq => absurd hq (Nat.not_lt_zero _)⟩)
  obtain ⟨v2, m2, e2⟩ := nx_S hR (i := 1) (by omega) 998 v1 m1
  obtain ⟨v3, m3, e3⟩ := nx_S hR (i := 2) (by omega) 997 v2 m2
  refine ⟨v3, (e1.trans e2).trans (e3.trans ?_), m3⟩
  show fX6_nextOpen_L4 τ (996 + 1) _ _ = _
  rw [fX6_nextOpen_L4.eq_2, if_pos (show (3 : Int32) ≤ nI 3 by decide)]
theorem nx_none {τ : St} {R : Nat → Int} (hR : ∀ p, p < 3 → (gI τ 17 0 p).toInt = R p) (h : ∀ p, p < 3 → ¬ opp τ p) : fX6_nextOpen τ = some (-1) := by
  obtain ⟨v, e, m⟩ := nx_of hR
  rcases m with ⟨rfl, -⟩ | ⟨j, hj, -, ho, -⟩
  · exact e
  · exact absurd ho (h j hj)
theorem nx_some {τ : St} {R : Nat → Int} (hR : ∀ p, p < 3 → (gI τ 17 0 p).toInt = R p) {p : Nat} (hp : p < 3) (ho : opp τ p) (h : ∀ q, q < 3 → opp τ q → rk R p ≤ rk R q) : fX6_nextOpen τ = some (nI p) := by
  obtain ⟨v, e, m⟩ := nx_of hR
  rcases m with ⟨-, m⟩ | ⟨j, hj, rfl, hoj, h4⟩
  · exact absurd ho (m p hp)
  · by_cases c : p = j
    · subst c; exact e
    · have h5 := (rk_lt (R := R) hj hp (Ne.symm c)).mp (h4 p hp ho c)
      have h6 := h j hj hoj
      omega
