/-! PURE: netting, what holds behind it -/
theorem neS_5 (σ τ : St) (m : Nat) {m' p : Nat} (hp : p < 3) : gL (neS σ τ m) 5 m' p = if m' = m then gL σ 5 m p + sDif τ m p else gL σ 5 m' p := by
  unfold neS
  rw [gL_pL, if_neg (by omega), gL_pL, gL_pL, gL_pL]
  by_cases c : m' = m
  · subst c
    rw [if_pos rfl]
    rcases (show p = 0 ∨ p = 1 ∨ p = 2 by omega) with rfl | rfl | rfl
    · rw [if_neg (by omega), if_neg (by omega), if_pos ⟨rfl, rfl, rfl⟩]
    · rw [if_neg (by omega), if_pos ⟨rfl, rfl, rfl⟩]
    · rw [if_pos ⟨rfl, rfl, rfl⟩]
  · rw [if_neg c, if_neg (by omega), if_neg (by omega), if_neg (by omega)]
theorem neT_5 (τ : St) (m : Nat) {m' p : Nat} (hp : p < 3) : gL (neT τ m) 5 0 (3 * m' + p) = if m' = m then wv τ m p else gL τ 5 0 (3 * m' + p) := by
  unfold neT
  rw [gL_pL, if_neg (by omega), gL_pL, gL_pL, gL_pL]
  by_cases c : m' = m
  · subst c
    rw [if_pos rfl]
    rcases (show p = 0 ∨ p = 1 ∨ p = 2 by omega) with rfl | rfl | rfl
    · rw [if_neg (by omega), if_neg (by omega), if_pos ⟨rfl, rfl, rfl⟩]
    · rw [if_neg (by omega), if_pos ⟨rfl, rfl, rfl⟩]
    · rw [if_pos ⟨rfl, rfl, rfl⟩]
  · rw [if_neg c, if_neg (by omega), if_neg (by omega), if_neg (by omega)]
theorem neS_0 (σ τ : St) (m m' : Nat) : gL (neS σ τ m) 0 m' 0 = if m' = m then gL σ 0 m 0 + chS τ m else gL σ 0 m' 0 := by
  unfold neS
  rw [gL_pL]
  by_cases c : m' = m
  · rw [if_pos ⟨rfl, c, rfl⟩, if_pos c]
  · rw [if_neg (fun z => c z.2.1), if_neg c]
    rfl
theorem G_net {B : Int} {σ τ : St} (h : G B σ τ) {m : Nat} (hm : m < 5) : G B (neS σ τ m) (neT τ m) := by
  obtain ⟨⟨hA, hU, hP, hQ, hO, hK, hW, hN, b1, b2, b3⟩, hC, hJ, hT⟩ := h
  have hP' : IP (neS σ τ m) (neT τ m) := fun m' hm' p hp => by
    obtain ⟨a1, a2⟩ := hP m' hm' p hp
    refine ⟨a1, ?_⟩
    rw [neS_5 σ τ m hp, neT_5 τ m hp]
    by_cases c : m' = m
    · rw [if_pos c, if_pos c, ← c, a2]
      show gL τ 5 0 (3 * m' + p) + (wv τ m' p - gL τ 5 0 (3 * m' + p)) = wv τ m' p
      grind
    · rw [if_neg c, if_neg c, a2]
  refine ⟨⟨fun m' hm' => ?_, hU, hP', hQ, hO, hK, hW, hN, b1, b2, b3⟩, hC, ⟨hJ.1, fun m' hm' => ⟨(hJ.2 m' hm').1, ?_⟩⟩, hT⟩
  · obtain ⟨a1, a2, a3⟩ := hA m' hm'
    refine ⟨?_, a2, a3⟩
    rw [neS_0]
    show _ = if 6 = 6 ∧ 0 = 0 ∧ m' = m then gL τ 6 0 m + chS τ m else gL τ 6 0 m'
    simp only [true_and]
    by_cases c : m' = m
    · rw [if_pos c, if_pos c, ← c, a1]
    · rw [if_neg c, if_neg c, a1]
  · show gL (neS σ τ m) 0 m' 0 - ((gL (neS σ τ m) 5 m' 0 + gL (neS σ τ m) 5 m' 1) + gL (neS σ τ m) 5 m' 2) = gL σ 2 m' 0 - JB σ m'
    rw [neS_0, neS_5 σ τ m (by omega), neS_5 σ τ m (by omega), neS_5 σ τ m (by omega)]
    have hh := (hJ.2 m' hm').2
    by_cases c : m' = m
    · rw [if_pos c, if_pos c, if_pos c, if_pos c, ← c]
      unfold chS
      grind
    · rw [if_neg c, if_neg c, if_neg c, if_neg c]
      exact hh
theorem sDif_ne (τ : St) (m : Nat) {m' p : Nat} (hp : p < 3) : sDif (neT τ m) m' p = if m' = m then 0 else sDif τ m' p := by
  unfold sDif
  rw [neT_5 τ m hp]
  by_cases c : m' = m
  · rw [if_pos c, if_pos c, c]
    exact Int64.sub_self _
  · rw [if_neg c, if_neg c]
    rfl
theorem neT_6 (τ : St) (m m' : Nat) : gL (neT τ m) 6 0 m' = if m' = m then gL τ 6 0 m + chS τ m else gL τ 6 0 m' := by
  show (if 6 = 6 ∧ 0 = 0 ∧ m' = m then _ else _) = _
  simp only [true_and]
  rfl
theorem sEq_ne (τ : St) (m m' : Nat) : sEq (neT τ m) m' = sEq τ m' := by
  unfold sEq
  rw [sDif_ne τ m (by omega), sDif_ne τ m (by omega), sDif_ne τ m (by omega), neT_6]
  by_cases c : m' = m
  · subst c
    simp only [if_true]
    unfold chS
    grind
  · simp only [if_neg c]
theorem SM_net (τ : St) (m : Nat) : SM τ (neT τ m) := ⟨fun _ => rfl, fun _ => rfl, rfl, fun _ => rfl, fun _ => rfl, rfl, fun _ => rfl, fun _ => ⟨rfl, rfl, rfl⟩, fun _ => ⟨rfl, rfl⟩⟩
theorem MN_net (τ : St) (m : Nat) : MN τ (neT τ m) := MN_eq (SM_net τ m) (fun m' _ => sEq_ne τ m m') (Int.le_refl _)
theorem FF_net (σ τ : St) (m : Nat) : FF σ τ (neS σ τ m) (neT τ m) := ⟨⟨⟨fun _ => rfl, fun _ => rfl, fun _ => rfl, rfl, rfl, SM_net τ m, MN_net τ m⟩, fun _ => rfl, fun _ => rfl⟩, fun _ => rfl, fun _ => rfl, rfl⟩
theorem ne_n (σ τ : St) (m : Nat) : sameN (neS σ τ m) σ := ⟨rfl, rfl, rfl, rfl, rfl, rfl, rfl⟩
