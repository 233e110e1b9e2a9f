/-! PURE: what the log tells of positions and of cash -/
def sn (f : Nat → Int64) : Nat → Int64
  | 0 => 0
  | n + 1 => sn f n + f n
theorem sn_congr {f g : Nat → Int64} {n : Nat} (h : ∀ k, k < n → f k = g k) : sn f n = sn g n := by
  induction n with
  | zero => rfl
  | succ n ih => rw [sn, sn, ih (fun k hk => h k (by omega)), h n (by omega)]
def sgv (B S : Int32) (q : Int32) (m : Nat) : Int64 := if B = nI m then q.toInt64 else if S = nI m then -q.toInt64 else 0
def sg (σ : St) (m t : Nat) : Int64 := sgv (gI σ 40 t 0) (gI σ 41 t 0) (gI σ 43 t 0) m
def jaf (σ : St) (m p t : Nat) : Int64 := if gI σ 42 t 0 = nI p then sg σ m t else 0
def jbf (σ : St) (m t : Nat) : Int64 := sg σ m t * (gI σ 44 t 0).toInt64
def JA (σ : St) (m p : Nat) : Int64 := sn (jaf σ m p) (gN σ 1)
def JB (σ : St) (m : Nat) : Int64 := sn (jbf σ m) (gN σ 1)
def JE (σ : St) : Prop := ∀ t, t < gN σ 1 → (∃ p, p < 3 ∧ gI σ 42 t 0 = nI p) ∧ 1 ≤ (gI σ 44 t 0).toInt ∧ (gI σ 44 t 0).toInt ≤ 9999
def IJ (σ : St) : Prop := JE σ ∧ ∀ m, m < 5 → (∀ p, p < 3 → (gI σ 4 m p).toInt64 = JA σ m p) ∧ gL σ 0 m 0 - ((gL σ 5 m 0 + gL σ 5 m 1) + gL σ 5 m 2) = gL σ 2 m 0 - JB σ m
theorem lg_old {σ : St} (hN : IN σ) (b s p q x : Int32) {f t : Nat} (hf : 40 ≤ f) (ht : t < gN σ 1) : gI (lgS σ b s p q x) f t 0 = gI σ f t 0 := by
  obtain ⟨n1, n2, -⟩ := hN
  unfold lgS addL14 lg0 newT
  simp only [gI_pN, gI_pI]
  rw [if_neg (by omega), if_neg (by omega), if_neg (by omega), if_neg (by omega), if_neg (by omega), if_neg (by omega), if_neg (by omega), if_neg (by omega), if_neg (by omega), if_neg (by omega), if_neg (by omega)]
theorem lg_new {σ : St} (hN : IN σ) (b s p q x : Int32) : gI (lgS σ b s p q x) 40 (gN σ 1) 0 = b ∧ gI (lgS σ b s p q x) 41 (gN σ 1) 0 = s ∧ gI (lgS σ b s p q x) 42 (gN σ 1) 0 = p ∧ gI (lgS σ b s p q x) 43 (gN σ 1) 0 = q ∧ gI (lgS σ b s p q x) 44 (gN σ 1) 0 = x := by
  obtain ⟨n1, n2, -⟩ := hN
  unfold lgS addL14 lg0 newT
  simp only [gI_pN, gI_pI]
  rw [n2]
  refine ⟨?_, ?_, ?_, ?_, ?_⟩ <;> simp
theorem lg_n (σ : St) (b s p q x : Int32) : gN (lgS σ b s p q x) 1 = gN σ 1 + 1 := rfl
theorem lg_JA {σ : St} (hN : IN σ) (b s x q : Int32) {p : Nat} (hp : p < 3) (m : Nat) {p' : Nat} (hp' : p' < 3) : JA (lgS σ b s (nI p) q x) m p' = JA σ m p' + if p = p' then sgv b s q m else 0 := by
  unfold JA
  rw [lg_n, sn, sn_congr (g := jaf σ m p') (fun t ht => ?_)]
  · congr 1
    obtain ⟨h1, h2, h3, h4, h5⟩ := lg_new hN b s (nI p) q x
    unfold jaf sg
    rw [h1, h2, h3, h4]
    by_cases e : p = p'
    · rw [if_pos (by rw [e]), if_pos e]
    · rw [if_neg (fun q => e ((nI_eq (by omega) (by omega)).mp q)), if_neg e]
  · unfold jaf sg
    rw [lg_old hN _ _ _ _ _ (by omega) ht, lg_old hN _ _ _ _ _ (by omega) ht, lg_old hN _ _ _ _ _ (by omega) ht, lg_old hN _ _ _ _ _ (by omega) ht]
theorem lg_JB {σ : St} (hN : IN σ) (b s p q x : Int32) (m : Nat) : JB (lgS σ b s p q x) m = JB σ m + sgv b s q m * x.toInt64 := by
  unfold JB
  rw [lg_n, sn, sn_congr (g := jbf σ m) (fun t ht => ?_)]
  · congr 1
    obtain ⟨h1, h2, h3, h4, h5⟩ := lg_new hN b s p q x
    unfold jbf sg
    rw [h1, h2, h4, h5]
  · unfold jbf sg
    rw [lg_old hN _ _ _ _ _ (by omega) ht, lg_old hN _ _ _ _ _ (by omega) ht, lg_old hN _ _ _ _ _ (by omega) ht, lg_old hN _ _ _ _ _ (by omega) ht]
theorem lg_JE {σ : St} (hN : IN σ) (h : JE σ) (b s q x : Int32) {p : Nat} (hp : p < 3) (hx : 1 ≤ x.toInt ∧ x.toInt ≤ 9999) : JE (lgS σ b s (nI p) q x) := fun t ht => by
  rw [lg_n] at ht
  by_cases e : t = gN σ 1
  · subst e
    obtain ⟨h1, h2, h3, h4, h5⟩ := lg_new hN b s (nI p) q x
    rw [h3, h5]
    exact ⟨⟨p, hp, rfl⟩, hx⟩
  · rw [lg_old hN _ _ _ _ _ (by omega) (show t < gN σ 1 by omega), lg_old hN _ _ _ _ _ (by omega) (show t < gN σ 1 by omega)]
    exact h t (by omega)
/-- a booking, and its entry in the log: 'v' is what the entry tells of the member -/
theorem J_step {σ σ0 : St} {b s x q : Int32} {p : Nat} (hN : IN σ0) (hp : p < 3) (hx : 1 ≤ x.toInt ∧ x.toInt ≤ 9999) (h : IJ σ) (eN : gN σ0 1 = gN σ 1) (eL : ∀ f t, 40 ≤ f → gI σ0 f t 0 = gI σ f t 0) (e0 : ∀ m, gL σ0 0 m 0 = gL σ 0 m 0) (e2 : ∀ m, gL σ0 2 m 0 = gL σ 2 m 0)
    (e4 : ∀ m, m < 5 → ∀ p', p' < 3 → (gI σ0 4 m p').toInt64 = (gI σ 4 m p').toInt64 + if p = p' then sgv b s q m else 0) (e5 : ∀ m, m < 5 → ∀ p', p' < 3 → gL σ0 5 m p' = gL σ 5 m p' + if p = p' then sgv b s q m * x.toInt64 else 0) : IJ (lgS σ0 b s (nI p) q x) := by
  have hJA : ∀ m p', JA σ0 m p' = JA σ m p' := fun m p' => by
    unfold JA
    rw [eN]
    refine sn_congr (fun t _ => ?_)
    unfold jaf sg
    rw [eL _ _ (by omega), eL _ _ (by omega), eL _ _ (by omega), eL _ _ (by omega)]
  have hJB : ∀ m, JB σ0 m = JB σ m := fun m => by
    unfold JB
    rw [eN]
    refine sn_congr (fun t _ => ?_)
    unfold jbf sg
    rw [eL _ _ (by omega), eL _ _ (by omega), eL _ _ (by omega), eL _ _ (by omega)]
  have hJE : JE σ0 := fun t ht => by
    rw [eL _ _ (by omega), eL _ _ (by omega)]
    exact h.1 t (by rw [← eN]; exact ht)
  refine ⟨lg_JE hN hJE b s q x hp hx, fun m hm => ⟨fun p' hp' => ?_, ?_⟩⟩
  · rw [lg_JA hN b s x q hp m hp', hJA, ← (h.2 m hm).1 p' hp']
    exact e4 m hm p' hp'
  · rw [lg_JB hN, hJB]
    show gL σ0 0 m 0 - ((gL σ0 5 m 0 + gL σ0 5 m 1) + gL σ0 5 m 2) = gL σ0 2 m 0 - _
    rw [e0, e2, e5 m hm 0 (by omega), e5 m hm 1 (by omega), e5 m hm 2 (by omega)]
    have hh := (h.2 m hm).2
    generalize sgv b s q m * x.toInt64 = v
    rcases (show p = 0 ∨ p = 1 ∨ p = 2 by omega) with rfl | rfl | rfl
    · rw [if_pos rfl, if_neg (by omega), if_neg (by omega)]; grind
    · rw [if_neg (by omega), if_pos rfl, if_neg (by omega)]; grind
    · rw [if_neg (by omega), if_neg (by omega), if_pos rfl]; grind
/-- a trade, of two members that are not the same -/
theorem tr_IJ {σ : St} (hN : IN σ) (hC : IC σ) (h5 : gN σ 1 < 50000) (h : IJ σ) {b s p : Nat} (hb : b < 5) (hs : s < 5) (hp : p < 3) (hbs : b ≠ s) {q x : Int32} (hx : 1 ≤ x.toInt ∧ x.toInt ≤ 9999)
    (hq : -20000 ≤ q.toInt ∧ q.toInt ≤ 20000) (hB : -20000 ≤ (gI σ 4 b p).toInt ∧ (gI σ 4 b p).toInt ≤ 20000) (hS : -20000 ≤ (gI σ 4 s p).toInt ∧ (gI σ 4 s p).toInt ≤ 20000) : IJ (trS σ b s p q x) := by
  have hN0 : IN (bkS (bkS σ b p q x) s p (-q) x) := hN
  show IJ (lgS (bkS (bkS σ b p q x) s p (-q) x) (nI b) (nI s) (nI p) q x)
  have hn : (-q).toInt = -q.toInt := neg32 rfl (by omega)
  have hv : ∀ m, m < 5 → sgv (nI b) (nI s) q m = if m = b then q.toInt64 else if m = s then -q.toInt64 else 0 := fun m hm => by
    unfold sgv
    by_cases c1 : m = b
    · rw [if_pos (by rw [c1]), if_pos c1]
    · rw [if_neg (fun e => c1 ((nI_eq (by omega) (by omega)).mp e).symm), if_neg c1]
      by_cases c2 : m = s
      · rw [if_pos (by rw [c2]), if_pos c2]
      · rw [if_neg (fun e => c2 ((nI_eq (by omega) (by omega)).mp e).symm), if_neg c2]
  refine J_step (σ := σ) hN0 hp hx h rfl (fun f t hf => ?_) (fun _ => rfl) (fun _ => rfl) (fun m hm p' hp' => ?_) (fun m hm p' hp' => ?_)
  · unfold bkS
    simp only [gI_pL, gI_pI]
    rw [if_neg (by omega), if_neg (by omega)]
  · rw [hv m hm]
    unfold bkS
    simp only [gI_pL, gI_pI, true_and]
    by_cases c : p = p'
    · subst c
      simp only [and_true, if_true]
      rw [if_neg (Ne.symm hbs)]
      by_cases c1 : m = s
      · subst c1
        rw [if_pos rfl, if_neg (Ne.symm hbs), if_pos rfl, wid_add (by rw [hn]; omega) (by rw [hn]; omega), wid_neg (by omega)]
      · rw [if_neg c1]
        by_cases c2 : m = b
        · subst c2
          rw [if_pos rfl, if_pos rfl, wid_add (by omega) (by omega)]
        · rw [if_neg c2, if_neg c2, if_neg c1, Int64.add_zero]
    · rw [if_neg (fun q => c q.2.symm), if_neg (fun q => c q.2.symm), if_neg c, Int64.add_zero]
  · rw [hv m hm]
    unfold bkS
    simp only [gL_pL, gL_pI, true_and]
    by_cases c : p = p'
    · subst c
      simp only [and_true, if_true]
      rw [if_neg (Ne.symm hbs)]
      by_cases c1 : m = s
      · subst c1
        rw [if_pos rfl, if_neg (Ne.symm hbs), if_pos rfl, wid_neg (by omega)]
      · rw [if_neg c1]
        by_cases c2 : m = b
        · subst c2
          rw [if_pos rfl, if_pos rfl]
        · rw [if_neg c2, if_neg c2, if_neg c1, Int64.zero_mul, Int64.add_zero]
    · rw [if_neg (fun q => c q.2.symm), if_neg (fun q => c q.2.symm), if_neg c, Int64.add_zero]
/-- the sum of all positions' sizes, behind a trade -/
theorem tr_sum {τ : St} {b s p : Nat} (hb : b < 5) (hs : s < 5) (hp : p < 3) (hbs : b ≠ s) {q x : Int32} (hq : -20000 ≤ q.toInt ∧ q.toInt ≤ 20000) (hB : -20000 ≤ ps τ (3 * b + p) ∧ ps τ (3 * b + p) ≤ 20000) (hS : -20000 ≤ ps τ (3 * s + p) ∧ ps τ (3 * s + p) ≤ 20000) :
    sm (fun j => ((ps (trT τ b s p q x) j).natAbs : Int)) 15 = sm (fun j => ((ps τ j).natAbs : Int)) 15 - (ps τ (3 * b + p)).natAbs - (ps τ (3 * s + p)).natAbs + (ps τ (3 * b + p) + q.toInt).natAbs + (ps τ (3 * s + p) - q.toInt).natAbs ∧ ps (trT τ b s p q x) (3 * b + p) = ps τ (3 * b + p) + q.toInt ∧ ps (trT τ b s p q x) (3 * s + p) = ps τ (3 * s + p) - q.toInt ∧ ∀ j, j ≠ 3 * b + p → j ≠ 3 * s + p → ps (trT τ b s p q x) j = ps τ j := by
  have hne : 3 * s + p ≠ 3 * b + p := by omega
  obtain ⟨t1, ht1⟩ : ∃ t1, t1 = pI τ 4 0 (3 * b + p) (gI τ 4 0 (3 * b + p) + q) := ⟨_, rfl⟩
  have p1 : ∀ j, ps t1 j = if j = 3 * b + p then ps τ (3 * b + p) + q.toInt else ps τ j := fun j => by
    rw [ht1]
    show (if 4 = 4 ∧ 0 = 0 ∧ j = 3 * b + p then _ else gI τ 4 0 j).toInt = _
    simp only [true_and]
    by_cases c : j = 3 * b + p
    · rw [if_pos c, if_pos c]; exact add32 rfl rfl (by show _ ≤ ps τ _ + _; omega) (by show ps τ _ + _ < _; omega)
    · rw [if_neg c, if_neg c]; rfl
  have p2 : ∀ j, ps (trT τ b s p q x) j = if j = 3 * s + p then ps τ (3 * s + p) - q.toInt else ps t1 j := fun j => by
    show ps (pI (pI τ 4 0 (3 * b + p) (gI τ 4 0 (3 * b + p) + q)) 4 0 (3 * s + p) (gI (pI τ 4 0 (3 * b + p) (gI τ 4 0 (3 * b + p) + q)) 4 0 (3 * s + p) - q)) j = _
    rw [← ht1]
    show (if 4 = 4 ∧ 0 = 0 ∧ j = 3 * s + p then gI t1 4 0 (3 * s + p) - q else gI t1 4 0 j).toInt = _
    simp only [true_and]
    have h1 := p1 (3 * s + p)
    rw [if_neg hne] at h1
    by_cases c : j = 3 * s + p
    · rw [if_pos c, if_pos c]; exact sub32 h1 rfl (by omega) (by omega)
    · rw [if_neg c, if_neg c]; rfl
  refine ⟨?_, ?_, ?_, fun j j1 j2 => ?_⟩
  · have s1 := sm_upd (f := fun j => ((ps τ j).natAbs : Int)) (g := fun j => ((ps t1 j).natAbs : Int)) (n := 15) (j := 3 * b + p) (by omega) (fun k _ hk => by rw [p1, if_neg hk])
    have s2 := sm_upd (f := fun j => ((ps t1 j).natAbs : Int)) (g := fun j => ((ps (trT τ b s p q x) j).natAbs : Int)) (n := 15) (j := 3 * s + p) (by omega) (fun k _ hk => by rw [p2, if_neg hk])
    rw [p1, if_pos rfl] at s1
    rw [p2, if_pos rfl, p1, if_neg hne, s1] at s2
    omega
  · rw [p2, if_neg (Ne.symm hne), p1, if_pos rfl]
  · rw [p2, if_pos rfl]
  · rw [p2, if_neg j2, p1, if_neg j1]
