/-! PURE, money: what the members have together; what no step of trading, closing out and failing makes greater -/
def eqI (τ : St) (m : Nat) : Int := (sEq τ m).toInt
def coI (τ : St) (m : Nat) : Int := (sCol τ m).toInt
def shI (τ : St) (m : Nat) : Int := (gL τ 8 0 m).toInt
def unI (τ : St) : Int := (gL τ 20 0 0).toInt
def prI (τ : St) (p : Nat) : Int := (gI τ 1 0 p).toInt
def PSI (τ : St) : Int := sm (fun m => ((eqI τ m).natAbs : Int) + coI τ m + shI τ m) 5 + unI τ + 800 * sm (lf τ) (tn τ)
def CQ (τ : St) : Int := sm (fun m => eqI τ m + coI τ m + shI τ m) 5 - unI τ
def sE (τ : St) : Int := sm (eqI τ) 5
theorem sm_upd2 {f g : Nat → Int} {n b s : Nat} (hb : b < n) (hs : s < n) (hbs : b ≠ s) (h : ∀ k, k < n → k ≠ b → k ≠ s → g k = f k) : sm g n = sm f n - f b + g b - f s + g s := by
  have h1 := sm_upd (f := f) (g := fun k => if k = b then g b else f k) (j := b) hb (fun k _ hk => if_neg hk)
  have h2 := sm_upd (f := fun k => if k = b then g b else f k) (g := g) (j := s) hs (fun k hkn hk => by
    by_cases c : k = b
    · rw [if_pos c, c]
    · rw [if_neg c]; exact h k hkn c hk)
  rw [h2, h1, if_pos rfl, if_neg (fun e => hbs e.symm)]
/-- numbers that stay far within the machine's -/
def MG (K : Int) (τ : St) : Prop := K ≤ 2000000000 ∧ (∀ p, p < 3 → prI τ p ≤ 400) ∧ (∀ k, k < tn τ → (gI τ 14 0 k).toInt ≤ 400) ∧ (∀ m, m < 5 → 0 ≤ shI τ m ∧ 0 ≤ coI τ m) ∧ 0 ≤ unI τ ∧ (∀ j, j < 10 → 0 ≤ (gI τ 7 0 j).toInt ∧ (gI τ 7 0 j).toInt ≤ 1000) ∧ (∀ k, k < 2 → (kq τ k 0).toInt ≤ 130 ∧ (kq τ k 1).toInt ≤ 130 ∧ (kq τ k 2).toInt ≤ 130 ∧ (kq τ k 3).toInt ≤ 130) ∧ PSI τ ≤ K
def MN (τ τ' : St) : Prop := ∀ K, MG K τ → MG K τ' ∧ CQ τ' = CQ τ ∧ sm (shI τ') 5 ≤ sm (shI τ) 5 ∧ unI τ ≤ unI τ'
theorem MN_rfl (τ : St) : MN τ τ := fun _ h => ⟨h, rfl, Int.le_refl _, Int.le_refl _⟩
theorem MN_tr {a b c : St} (h1 : MN a b) (h2 : MN b c) : MN a c := fun K h => ⟨(h2 K (h1 K h).1).1, ((h2 K (h1 K h).1).2.1).trans (h1 K h).2.1, Int.le_trans (h2 K (h1 K h).1).2.2.1 (h1 K h).2.2.1, Int.le_trans (h1 K h).2.2.2 (h2 K (h1 K h).1).2.2.2⟩
theorem sm5 (f : Nat → Int) : sm f 5 = f 0 + f 1 + f 2 + f 3 + f 4 := by
  simp only [sm]
  omega
theorem MG_of {K K' : Int} {τ τ' : St} (h : MG K τ) (hK : K' ≤ 2000000000) (hp : ∀ p, p < 3 → prI τ' p ≤ 400) (hl : ∀ k, k < tn τ' → (gI τ' 14 0 k).toInt ≤ 400) (hs : ∀ m, m < 5 → 0 ≤ shI τ' m ∧ 0 ≤ coI τ' m) (hu : 0 ≤ unI τ') (hU : ∀ j, j < 10 → 0 ≤ (gI τ' 7 0 j).toInt ∧ (gI τ' 7 0 j).toInt ≤ 1000) (hk : ∀ k, k < 2 → (kq τ' k 0).toInt ≤ 130 ∧ (kq τ' k 1).toInt ≤ 130 ∧ (kq τ' k 2).toInt ≤ 130 ∧ (kq τ' k 3).toInt ≤ 130) (hP : PSI τ' ≤ K') : MG K' τ' := ⟨hK, hp, hl, hs, hu, hU, hk, hP⟩
theorem MG_mono {K K' : Int} {τ : St} (h : MG K τ) (hk : K ≤ K') (hK : K' ≤ 2000000000) : MG K' τ := by
  obtain ⟨h1, h2, h3, h4, h5, h6, h7, h8⟩ := h
  exact ⟨hK, h2, h3, h4, h5, h6, h7, by omega⟩
/-- what a step leaves, whose equities change alone -/
def SM (τ τ' : St) : Prop := (∀ j, gI τ' 7 0 j = gI τ 7 0 j) ∧ (∀ j, gI τ' 3 0 j = gI τ 3 0 j) ∧ gL τ' 20 0 0 = gL τ 20 0 0 ∧ (∀ p, gI τ' 1 0 p = gI τ 1 0 p) ∧ (∀ k, gI τ' 14 0 k = gI τ 14 0 k) ∧ gI τ' 21 0 0 = gI τ 21 0 0 ∧ (∀ m, gL τ' 8 0 m = gL τ 8 0 m) ∧ (∀ k, gI τ' 12 0 k = gI τ 12 0 k ∧ gI τ' 13 0 k = gI τ 13 0 k ∧ gI τ' 11 0 k = gI τ 11 0 k) ∧ (∀ j, gI τ' 2 0 j = gI τ 2 0 j ∧ gI τ' 16 0 j = gI τ 16 0 j)
theorem SM_rfl (τ : St) : SM τ τ := ⟨fun _ => rfl, fun _ => rfl, rfl, fun _ => rfl, fun _ => rfl, rfl, fun _ => rfl, fun _ => ⟨rfl, rfl, rfl⟩, fun _ => ⟨rfl, rfl⟩⟩
theorem SM_tr {a b c : St} (h1 : SM a b) (h2 : SM b c) : SM a c := by
  obtain ⟨a1, a2, a3, a4, a5, a6, a7, a8, a9⟩ := h1
  obtain ⟨b1, b2, b3, b4, b5, b6, b7, b8, b9⟩ := h2
  exact ⟨fun j => (b1 j).trans (a1 j), fun j => (b2 j).trans (a2 j), b3.trans a3, fun j => (b4 j).trans (a4 j), fun j => (b5 j).trans (a5 j), b6.trans a6, fun j => (b7 j).trans (a7 j), fun k => ⟨(b8 k).1.trans (a8 k).1, (b8 k).2.1.trans (a8 k).2.1, (b8 k).2.2.trans (a8 k).2.2⟩, fun j => ⟨(b9 j).1.trans (a9 j).1, (b9 j).2.trans (a9 j).2⟩⟩
theorem SM_kq {τ τ' : St} (h : SM τ τ') (k j : Nat) : kq τ' k j = kq τ k j := h.2.1 _
theorem SM_hair {τ τ' : St} (h : SM τ τ') (k : Nat) : sHair τ' k = sHair τ k := by
  unfold sHair
  simp only [SM_kq h]
theorem SM_col {τ τ' : St} (h : SM τ τ') (m : Nat) : sCol τ' m = sCol τ m := by
  unfold sCol sWor
  simp only [SM_kq h, SM_hair h, h.1]
theorem SM_tn {τ τ' : St} (h : SM τ τ') : tn τ' = tn τ := by unfold tn; rw [h.2.2.2.2.2.1]
theorem SM_sh {τ τ' : St} (h : SM τ τ') (m : Nat) : shI τ' m = shI τ m := by unfold shI; rw [h.2.2.2.2.2.2.1]
theorem SM_co {τ τ' : St} (h : SM τ τ') (m : Nat) : coI τ' m = coI τ m := by unfold coI; rw [SM_col h]
theorem SM_un {τ τ' : St} (h : SM τ τ') : unI τ' = unI τ := by unfold unI; rw [h.2.2.1]
theorem SM_pr {τ τ' : St} (h : SM τ τ') (p : Nat) : prI τ' p = prI τ p := by unfold prI; rw [h.2.2.2.1]
/-- a step over which the sum of equities stays, and what they are, with what is left of orders, grows by nothing -/
theorem MN_of {τ τ' : St} (h : SM τ τ') (he : ∀ K, MG K τ → sE τ' = sE τ ∧ sm (fun m => ((eqI τ' m).natAbs : Int)) 5 + 800 * sm (lf τ') (tn τ) ≤ sm (fun m => ((eqI τ m).natAbs : Int)) 5 + 800 * sm (lf τ) (tn τ)) : MN τ τ' := fun K hK => by
  obtain ⟨e1, e2⟩ := he K hK
  obtain ⟨h1, h2, h3, h4, h5, h6, h7, h8⟩ := hK
  have hp : PSI τ' ≤ PSI τ := by
    unfold PSI
    rw [SM_tn h, SM_un h, sm5, sm5]
    rw [sm5, sm5] at e2
    simp only [SM_co h, SM_sh h]
    omega
  refine ⟨⟨h1, fun p hp => by rw [SM_pr h]; exact h2 p hp, fun k hk => by rw [h.2.2.2.2.1]; exact h3 k (by rw [← SM_tn h]; exact hk), fun m hm => by rw [SM_sh h, SM_co h]; exact h4 m hm, by rw [SM_un h]; exact h5, fun j hj => by rw [h.1]; exact h6 j hj, fun k hk => by simp only [SM_kq h]; exact h7 k hk, by omega⟩, ?_, Int.le_of_eq (sm_congr (fun m _ => SM_sh h m)), Int.le_of_eq (SM_un h).symm⟩
  unfold sE at e1
  rw [sm5, sm5] at e1
  unfold CQ
  rw [SM_un h, sm5, sm5]
  simp only [SM_co h, SM_sh h]
  omega
theorem MN_eq {τ τ' : St} (h : SM τ τ') (he : ∀ m, m < 5 → sEq τ' m = sEq τ m) (hl : sm (lf τ') (tn τ) ≤ sm (lf τ) (tn τ)) : MN τ τ' := MN_of h (fun K _ => by
  have e : ∀ m, m < 5 → eqI τ' m = eqI τ m := fun m hm => by unfold eqI; rw [he m hm]
  refine ⟨?_, ?_⟩
  · unfold sE; exact sm_congr e
  · rw [sm_congr (f := fun m => ((eqI τ' m).natAbs : Int)) (g := fun m => ((eqI τ m).natAbs : Int)) (fun m hm => by rw [e m hm])]
    omega)
theorem PSI_b {K : Int} {τ : St} (h : MG K τ) (hl : 0 ≤ sm (lf τ) (tn τ)) : ∀ m, m < 5 → (eqI τ m).natAbs ≤ K ∧ 0 ≤ coI τ m ∧ coI τ m ≤ K ∧ 0 ≤ shI τ m ∧ shI τ m ≤ K ∧ 0 ≤ unI τ ∧ unI τ ≤ K := fun m hm => by
  obtain ⟨h1, h2, h3, h4, h5, h6, h7, h8⟩ := h
  have a0 := h4 0 (by omega)
  have a1 := h4 1 (by omega)
  have a2 := h4 2 (by omega)
  have a3 := h4 3 (by omega)
  have a4 := h4 4 (by omega)
  unfold PSI at h8
  rw [sm5] at h8
  rcases (show m = 0 ∨ m = 1 ∨ m = 2 ∨ m = 3 ∨ m = 4 by omega) with rfl | rfl | rfl | rfl | rfl <;> omega
-- a trade
def trD (τ : St) (p : Nat) (q x : Int32) : Int64 := q.toInt64 * ((gI τ 1 0 p).toInt64 - x.toInt64)
theorem trT_4 (τ : St) {b s p m p' : Nat} (hp : p < 3) (hp' : p' < 3) (q x : Int32) : gI (trT τ b s p q x) 4 0 (3 * m + p') = if m = s ∧ p' = p then (if s = b then gI τ 4 0 (3 * b + p) + q else gI τ 4 0 (3 * s + p)) - q else if m = b ∧ p' = p then gI τ 4 0 (3 * b + p) + q else gI τ 4 0 (3 * m + p') := by
  show (if 4 = 4 ∧ 0 = 0 ∧ 3 * m + p' = 3 * s + p then (if 4 = 4 ∧ 0 = 0 ∧ 3 * s + p = 3 * b + p then gI τ 4 0 (3 * b + p) + q else gI τ 4 0 (3 * s + p)) - q else if 4 = 4 ∧ 0 = 0 ∧ 3 * m + p' = 3 * b + p then gI τ 4 0 (3 * b + p) + q else gI τ 4 0 (3 * m + p')) = _
  simp only [true_and, ix_eq hp' hp, ix_eq hp hp, and_true]
theorem trT_5 (τ : St) {b s p m p' : Nat} (hp : p < 3) (hp' : p' < 3) (q x : Int32) : gL (trT τ b s p q x) 5 0 (3 * m + p') = if m = s ∧ p' = p then (if s = b then gL τ 5 0 (3 * b + p) + q.toInt64 * x.toInt64 else gL τ 5 0 (3 * s + p)) - q.toInt64 * x.toInt64 else if m = b ∧ p' = p then gL τ 5 0 (3 * b + p) + q.toInt64 * x.toInt64 else gL τ 5 0 (3 * m + p') := by
  show (if 5 = 5 ∧ 0 = 0 ∧ 3 * m + p' = 3 * s + p then (if 5 = 5 ∧ 0 = 0 ∧ 3 * s + p = 3 * b + p then gL τ 5 0 (3 * b + p) + q.toInt64 * x.toInt64 else gL τ 5 0 (3 * s + p)) - q.toInt64 * x.toInt64 else if 5 = 5 ∧ 0 = 0 ∧ 3 * m + p' = 3 * b + p then gL τ 5 0 (3 * b + p) + q.toInt64 * x.toInt64 else gL τ 5 0 (3 * m + p')) = _
  simp only [true_and, ix_eq hp' hp, ix_eq hp hp, and_true]
theorem sDif_tr {τ : St} {b s p m p' : Nat} (hbs : b ≠ s) (hp : p < 3) (hp' : p' < 3) {q x : Int32} (hb : -2147483648 ≤ ps τ (3 * b + p) + q.toInt ∧ ps τ (3 * b + p) + q.toInt < 2147483648) (hs : -2147483648 ≤ ps τ (3 * s + p) - q.toInt ∧ ps τ (3 * s + p) - q.toInt < 2147483648) : sDif (trT τ b s p q x) m p' = sDif τ m p' + (if p' = p then (if m = b then trD τ p q x else if m = s then -trD τ p q x else 0) else 0) := by
  have hsb : ¬ s = b := fun e => hbs e.symm
  unfold sDif trD
  rw [trT_4 τ hp hp', trT_5 τ hp hp', show gI (trT τ b s p q x) 1 0 p' = gI τ 1 0 p' from rfl]
  simp only [if_neg hsb]
  by_cases c : p' = p
  · subst c
    simp only [and_true, if_true]
    by_cases c1 : m = s
    · subst c1
      simp only [if_true, if_neg hsb]
      rw [wid_sub hs.1 hs.2]
      grind
    · simp only [if_neg c1]
      by_cases c2 : m = b
      · subst c2
        simp only [if_true]
        rw [wid_add hb.1 hb.2]
        grind
      · simp only [if_neg c2, Int64.add_zero]
  · simp only [c, and_false, if_false, Int64.add_zero]
theorem sEq_tr {τ : St} {b s p m : Nat} (hbs : b ≠ s) (hp : p < 3) {q x : Int32} (hb : -2147483648 ≤ ps τ (3 * b + p) + q.toInt ∧ ps τ (3 * b + p) + q.toInt < 2147483648) (hs : -2147483648 ≤ ps τ (3 * s + p) - q.toInt ∧ ps τ (3 * s + p) - q.toInt < 2147483648) : sEq (trT τ b s p q x) m = sEq τ m + (if m = b then trD τ p q x else if m = s then -trD τ p q x else 0) := by
  unfold sEq
  rw [sDif_tr hbs hp (by omega) hb hs, sDif_tr hbs hp (by omega) hb hs, sDif_tr hbs hp (by omega) hb hs, show gL (trT τ b s p q x) 6 0 m = gL τ 6 0 m from rfl]
  generalize (if m = b then trD τ p q x else if m = s then -trD τ p q x else 0) = d
  rcases (show p = 0 ∨ p = 1 ∨ p = 2 by omega) with rfl | rfl | rfl
  · rw [if_pos rfl, if_neg (by decide), if_neg (by decide)]; grind
  · rw [if_neg (by decide), if_pos rfl, if_neg (by decide)]; grind
  · rw [if_neg (by decide), if_neg (by decide), if_pos rfl]; grind
theorem trD_b {τ : St} {p : Nat} {q x : Int32} (hp : 1 ≤ prI τ p ∧ prI τ p ≤ 400) (hx : 1 ≤ x.toInt ∧ x.toInt ≤ 400) (hq : 0 ≤ q.toInt ∧ q.toInt ≤ 20000) : (trD τ p q x).toInt = q.toInt * (prI τ p - x.toInt) ∧ -(400 * q.toInt) ≤ (trD τ p q x).toInt ∧ (trD τ p q x).toInt ≤ 400 * q.toInt := by
  have h1 : ((gI τ 1 0 p).toInt64 - x.toInt64).toInt = prI τ p - x.toInt := sub64 (wid rfl) (wid rfl) (by show _ ≤ prI τ p - _; omega) (by show prI τ p - _ < _; omega)
  have h2 := mulB (a := q.toInt) (b := prI τ p - x.toInt) (A := q.toInt) (B := 400) (by omega) (by omega) (by omega) (by omega)
  have h3 : (trD τ p q x).toInt = q.toInt * (prI τ p - x.toInt) := by
    unfold trD
    exact mul64 (wid rfl) h1 (by omega) (by omega)
  rw [h3]
  have h4 : q.toInt * 400 = 400 * q.toInt := Int.mul_comm _ _
  exact ⟨rfl, by omega, by omega⟩
/-- the sums over a trade: what left of orders before it pays for it -/
theorem MN_trade {τ τ1 : St} {b s p : Nat} (hb5 : b < 5) (hs5 : s < 5) (hbs : b ≠ s) (hp : p < 3) {q x : Int32} (h1 : SM τ τ1) (he : ∀ m, sEq τ1 m = sEq τ m) (h4 : ∀ j, ps τ1 j = ps τ j) (hP : 1 ≤ prI τ p) (hl : 0 ≤ sm (lf τ1) (tn τ)) (hx : 1 ≤ x.toInt) (hx2 : ∀ K, MG K τ → x.toInt ≤ 400) (hq : 0 ≤ q.toInt ∧ q.toInt ≤ 20000) (hb : -20000 ≤ ps τ (3 * b + p) ∧ ps τ (3 * b + p) ≤ 20000) (hs : -20000 ≤ ps τ (3 * s + p) ∧ ps τ (3 * s + p) ≤ 20000) (hL : sm (lf τ1) (tn τ) + q.toInt ≤ sm (lf τ) (tn τ)) : MN τ (trT τ1 b s p q x) := by
  refine MN_of (SM_tr h1 ⟨fun _ => rfl, fun _ => rfl, rfl, fun _ => rfl, fun _ => rfl, rfl, fun _ => rfl, fun _ => ⟨rfl, rfl, rfl⟩, fun _ => ⟨rfl, rfl⟩⟩) (fun K hK => ?_)
  have hpr : prI τ1 p = prI τ p := SM_pr h1 p
  have hp4 := hK.2.1 p hp
  obtain ⟨-, d2, d3⟩ := trD_b (τ := τ1) (p := p) (q := q) (x := x) (by rw [hpr]; exact ⟨hP, hp4⟩) ⟨hx, hx2 K hK⟩ hq
  have hbb : -2147483648 ≤ ps τ1 (3 * b + p) + q.toInt ∧ ps τ1 (3 * b + p) + q.toInt < 2147483648 := by rw [h4]; omega
  have hss : -2147483648 ≤ ps τ1 (3 * s + p) - q.toInt ∧ ps τ1 (3 * s + p) - q.toInt < 2147483648 := by rw [h4]; omega
  have hPS := PSI_b hK (by omega)
  have hK2 := hK.1
  generalize hd : trD τ1 p q x = d at d2 d3
  have key : ∀ m, m < 5 → eqI (trT τ1 b s p q x) m = eqI τ m + (if m = b then d.toInt else if m = s then -d.toInt else 0) := fun m hm => by
    have hb1 := (hPS m hm).1
    unfold eqI at hb1 ⊢
    rw [sEq_tr hbs hp hbb hss, he, hd]
    by_cases c1 : m = b
    · rw [if_pos c1, if_pos c1]
      exact add64 rfl rfl (by omega) (by omega)
    · rw [if_neg c1, if_neg c1]
      by_cases c2 : m = s
      · rw [if_pos c2, if_pos c2]
        exact add64 rfl (neg64 rfl (by omega)) (by omega) (by omega)
      · rw [if_neg c2, if_neg c2, Int64.add_zero, Int.add_zero]
  have hlf : sm (lf (trT τ1 b s p q x)) (tn τ) = sm (lf τ1) (tn τ) := rfl
  have hother : ∀ m, m < 5 → m ≠ b → m ≠ s → eqI (trT τ1 b s p q x) m = eqI τ m := fun m hm c1 c2 => by rw [key m hm, if_neg c1, if_neg c2, Int.add_zero]
  have kb := key b hb5
  have ks := key s hs5
  rw [if_pos rfl] at kb
  rw [if_neg (fun e => hbs e.symm), if_pos rfl] at ks
  have u1 := sm_upd2 (f := eqI τ) (g := eqI (trT τ1 b s p q x)) hb5 hs5 hbs hother
  have u2 := sm_upd2 (f := fun m => ((eqI τ m).natAbs : Int)) (g := fun m => ((eqI (trT τ1 b s p q x) m).natAbs : Int)) hb5 hs5 hbs (fun m hm c1 c2 => by rw [hother m hm c1 c2])
  rw [hlf]
  unfold sE
  rw [u1, u2, kb, ks]
  constructor <;> omega
