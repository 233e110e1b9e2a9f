/-! adding to the two lists, over the world of the class (laid by wip/gen/lists2.py) -/
section LSA
variable {p : Program} {l : Launch} {e : Env} {R : Room} {s : State} {m : MethodId} {args : Array Value} {below : List Frame} {meth : Method} {c : Code} {H H0 H1 : Heap} {locs : List Loc} {cells slots : Nat} {Q : State → Prop}
variable {cc : ByteArray} {pc nL : Nat} {own : String} {ret : Option FieldType} {ls : Array Slot} {lv : List (Nat × Value)} {rest : List Value} {D : va_G} {dA : Nat → ClassId} {A0 : Nat → Prop} {ad : Nat → Nat → Nat} {σ : St}
def addL12 (σ : St) : St := pN (pN (pI σ 22 0 0 (gI σ 22 0 0 + 1)) 2 (acap (gN σ 0) (gN σ 2))) 0 (gN σ 0 + 1)
theorem els_12 (h : HC D dA A0 ad σ H) (hok : gN σ 0 ≤ gN σ 5) : ELS D (adL ad 12 13 17) (stL σ 22 0 2) H := by
  intro j hj
  have hj : j < gN σ 0 := hj
  have hv : cvC σ 17 j := Nat.lt_of_lt_of_le hj hok
  refine ⟨⟨3, _, Or.inl rfl, WW_at h hv⟩, fun f i q => ?_⟩
  match f, q with
  | 0, q => exact fun e => absurd (h.2 17 j 12 0 hv rfl e).1 (by decide)
  | 1, q => exact fun e => absurd (h.2 17 j 13 0 hv ⟨rfl, q.2⟩ e).1 (by decide)
  | f + 2, q => exact absurd q (by simp [cvA])
theorem cvadd_12 {f i : Nat} (h : cvC (addL12 σ) f i) (hf : f ≠ 13) : cvC σ f i := by
  unfold addL12 at h
  match f, h, hf with
  | 0, h, hf => exact h
  | 1, h, hf => exact h
  | 2, h, hf => exact h
  | 3, h, hf => exact h
  | 4, h, hf => exact h
  | 5, h, hf => exact h
  | 6, h, hf => exact h
  | 7, h, hf => exact h
  | 8, h, hf => exact h
  | 9, h, hf => exact h
  | 10, h, hf => exact h
  | 11, h, hf => exact h
  | 12, h, hf => exact h
  | 13, h, hf => exact absurd rfl hf
  | 14, h, hf => exact h
  | 15, h, hf => exact h
  | 16, h, hf => exact h
  | 17, h, hf => exact h
  | 18, h, hf => exact h
  | 19, h, hf => exact h
  | f + 20, h, hf => exact absurd h (by simp [cvC])
theorem ctadd_12 {f i q : Nat} (h : cvC σ f i) (h0 : f ≠ 12) (h1 : f ≠ 13) : ctC dA (ad1 ad 13 0 q) (addL12 σ) f i = ctC dA ad σ f i := by
  unfold addL12
  match f, h, h0, h1 with
  | 0, h, h0, h1 => simp [ctC, ad1, gI_pN, gL_pN, gN_pN, gI_pI, gL_pI, gN_pI]
  | 1, h, h0, h1 => simp [ctC, ad1, gI_pN, gL_pN, gN_pN, gI_pI, gL_pI, gN_pI]
  | 2, h, h0, h1 => simp [ctC, ad1, gI_pN, gL_pN, gN_pN, gI_pI, gL_pI, gN_pI]
  | 3, h, h0, h1 => simp [ctC, ad1, gI_pN, gL_pN, gN_pN, gI_pI, gL_pI, gN_pI]
  | 4, h, h0, h1 => simp [ctC, ad1, gI_pN, gL_pN, gN_pN, gI_pI, gL_pI, gN_pI]
  | 5, h, h0, h1 => simp [ctC, ad1, gI_pN, gL_pN, gN_pN, gI_pI, gL_pI, gN_pI]
  | 6, h, h0, h1 => simp [ctC, ad1, gI_pN, gL_pN, gN_pN, gI_pI, gL_pI, gN_pI]
  | 7, h, h0, h1 => simp [ctC, ad1, gI_pN, gL_pN, gN_pN, gI_pI, gL_pI, gN_pI]
  | 8, h, h0, h1 => simp [ctC, ad1, gI_pN, gL_pN, gN_pN, gI_pI, gL_pI, gN_pI]
  | 9, h, h0, h1 => simp [ctC, ad1, gI_pN, gL_pN, gN_pN, gI_pI, gL_pI, gN_pI]
  | 10, h, h0, h1 => simp [ctC, ad1, gI_pN, gL_pN, gN_pN, gI_pI, gL_pI, gN_pI]
  | 11, h, h0, h1 => simp [ctC, ad1, gI_pN, gL_pN, gN_pN, gI_pI, gL_pI, gN_pI]
  | 12, h, h0, h1 => exact absurd rfl h0
  | 13, h, h0, h1 => exact absurd rfl h1
  | 14, h, h0, h1 => simp [ctC, ad1, gI_pN, gL_pN, gN_pN, gI_pI, gL_pI, gN_pI]
  | 15, h, h0, h1 => simp [ctC, ad1, gI_pN, gL_pN, gN_pN, gI_pI, gL_pI, gN_pI]
  | 16, h, h0, h1 => simp [ctC, ad1, gI_pN, gL_pN, gN_pN, gI_pI, gL_pI, gN_pI]
  | 17, h, h0, h1 => simp [ctC, ad1, gI_pN, gL_pN, gN_pN, gI_pI, gL_pI, gN_pI]
  | 18, h, h0, h1 => simp [ctC, ad1, gI_pN, gL_pN, gN_pN, gI_pI, gL_pI, gN_pI]
  | 19, h, h0, h1 => simp [ctC, ad1, gI_pN, gL_pN, gN_pN, gI_pI, gL_pI, gN_pI]
  | f + 20, h, h0, h1 => exact absurd h (by simp [cvC])
set_option maxHeartbeats 4000000 in
theorem ls_add12 {idx x mi : Nat} (hC : CTX p s m args meth c cc nL own ret) (hK : KS D dA s) (hA : ∀ q, s.heap.size ≤ q → A0 q) (hR : HC D dA A0 ad σ H) (hS : va_S A0 s.heap H locs) (hX : EXT x mi A0 s s.heap) (hx0 : gN σ 2 = 0 → ad 13 0 = x) (hok : gN σ 0 < gN σ 5) (hok2 : gN σ 0 ≤ gN σ 2) (hok3 : gN σ 2 ≤ 1000000) (hl : lv_has ls nL lv) (hlink : Cond.methodLink own idx yJx4a65c_add_9ea2d ∈ WU) (hroom : 6 + 1 ≤ R.frames ∧ 8 + (2 + 11) + 156 ≤ R.locals) (hW : 2 * (F0 m pc ls (.ref (ad 17 (gN σ 0)) :: .ref (ad 12 0) :: rest)).monitorRoom + (rest.map fun v => v.category).sum ≤ 8) (hcs : cells + amc (gN σ 0) (gN σ 2) ≤ R.cells ∧ slots + ams (gN σ 0) (gN σ 2) ≤ R.slots) (hdg : decode cc pc = .ok (.invokevirtual idx, 3))
    (kk : ∀ (q : Nat) (H1 : Heap) (locs1 : List Loc), HC D dA A0 (ad1 ad 13 0 q) (addL12 σ) H1 → va_S A0 s.heap H1 locs1 → W p l e R s m args below meth c H1 locs1 (cells + amc (gN σ 0) (gN σ 2)) (slots + ams (gN σ 0) (gN σ 2)) Q (F0 m (pc + 3) ls (.int 1 :: rest))) : W p l e R s m args below meth c H locs cells slots Q (F0 m pc ls (.ref (ad 17 (gN σ 0)) :: .ref (ad 12 0) :: rest)) := by
  obtain ⟨hx, hb, hml, hown, hts, hr, hlk⟩ := id hC
  have hB := sub_12 hR
  have hvn : cvC σ 17 (gN σ 0) := hok
  have hE := els_12 hR (Nat.le_of_lt hok)
  have hyn : ∀ f i, cvA (stL σ 22 0 2) f i → ad 17 (gN σ 0) ≠ (adL ad 12 13 17) f i := fun f i q => by
    match f, q with
    | 0, q => exact fun e => absurd (hR.2 17 _ 12 0 hvn rfl e).1 (by decide)
    | 1, q => exact fun e => absurd (hR.2 17 _ 13 0 hvn ⟨rfl, q.2⟩ e).1 (by decide)
    | f + 2, q => exact absurd q (by simp [cvA])
  have hy : EL D H (ad 17 (gN σ 0)) := ⟨3, _, Or.inl rfl, WW_at hR hvn⟩
  have hfit := fits_12 hA hR hS
  refine va_calli (va_runV (As := [.ref (ad 17 (gN σ 0))]) (rest := rest) ⟨hx, hb, hml, hown, hts⟩ (c_add1 l D dA (adL ad 12 13 17) (stL σ 22 0 2) x mi H.size (ad 17 (gN σ 0)) hok2 hok3 hyn) (cwV 1 hts (gV_of hlink q_451 q_452 q_38 q_453) rfl rfl rfl (by decide +kernel) hroom) ⟨fun a U g mk q => ?_, va_recv hK.1 (WW_one hB (f := 0) (i := 0) rfl) (q0 := 0) (ci := 0) rfl rfl, fun U hU hW => ⟨rfl, ⟨by rw [hU], by rw [hU]; exact WW_weaken hB (fun _ _ => trivial), KS_warm hW hK, EXT_at hX hS hfit hU hW, hx0, by rw [hU]; exact hE⟩, by rw [hU]; exact hy⟩⟩ rfl rfl hl.1 rfl hW hdg hcs) hS (fun q _ h => hfit q h) (fun q h => hfit q h) (fun r' u t H1 locs1 ht hvm hw hB1 hz hk hS1 => ?_)
  · obtain ⟨q0, ⟨q1, q2, q3, q4, q5⟩, q6⟩ := q
    exact ⟨q0, ⟨q1, q2, KS_calling q3, EXT_calling q4, q5⟩, q6⟩
  obtain ⟨hw1, hw2, hw3⟩ := hw
  subst hw1
  rw [ht] at hB1
  refine kk u H1 locs1 (WW_merge hR hfit hB1 hk (fun g j hv => ?_) (fun f i g j q1 q2 e => ?_)) hS1
  · by_cases h0 : g = 12
    · subst h0
      have hj : j = 0 := hv
      subst hj
      refine Or.inr ⟨0, 0, rfl, rfl, ?_⟩
      have e2 : ad1 (ad1 (adL ad 12 13 17) 1 0 u) 2 (gN (stL σ 22 0 2) 0) (ad 17 (gN σ 0)) 1 0 = u := (ad1_ne (fun e => absurd e.1 (by decide))).trans (ad1_at _ _ _ _)
      have e3 : ad1 ad 13 0 u 13 0 = u := ad1_at _ _ _ _
      simp only [ctC, ctA, e2, e3]
      rfl
    by_cases h1 : g = 13
    · subst h1
      have hj : j = 0 := hv.1
      subst hj
      refine Or.inr ⟨1, 0, ⟨rfl, hv.2⟩, ?_, ?_⟩
      · exact (ad1_at ad 13 0 u).trans ((ad1_ne (fun e => absurd e.1 (by decide))).trans (ad1_at _ _ _ _)).symm
      · have ef : (fun j => if j < gN σ 0 + 1 then some (ad1 ad 13 0 u 17 j) else none) = (fun j => if j < gN σ 0 + 1 then some (ad1 (ad1 (adL ad 12 13 17) 1 0 u) 2 (gN σ 0) (ad 17 (gN σ 0)) 2 j) else none) := by
          funext j
          have e4 : ad1 ad 13 0 u 17 j = ad 17 j := ad1_ne (fun e => absurd e.1 (by decide))
          have e5 : ad1 (ad1 (adL ad 12 13 17) 1 0 u) 2 (gN σ 0) (ad 17 (gN σ 0)) 2 j = ad 17 j := by
            by_cases hj : j = gN σ 0
            · subst hj; exact ad1_at _ _ _ _
            · exact (ad1_ne (fun e => hj e.2)).trans (ad1_ne (fun e => absurd e.1 (by decide)))
          rw [e4, e5]
        show (Sum.inl (dA 6, acap (gN σ 0) (gN σ 2), rfs (fun j => if j < gN σ 0 + 1 then some (ad1 ad 13 0 u 17 j) else none)) : va_E) = (Sum.inl (dA 6, acap (gN σ 0) (gN σ 2), rfs (fun j => if j < gN σ 0 + 1 then some (ad1 (ad1 (adL ad 12 13 17) 1 0 u) 2 (gN σ 0) (ad 17 (gN σ 0)) 2 j) else none)) : va_E)
        rw [ef]
    have hv0 := cvadd_12 hv h1
    exact Or.inl ⟨hv0, ad1_ne (fun e => h1 e.1), ctadd_12 hv0 h0 h1, out_12 hR hv0 h0 h1⟩
  · have hu : gN σ 0 = gN σ 2 → ∀ g j, cvC σ g j → ad g j ≠ u := fun h g j hv e => absurd (WW_lt hR hv) (by rw [e]; exact Nat.not_lt.mpr (hw3 h))
    have hu2 : gN σ 0 ≠ gN σ 2 → u = ad 13 0 := fun h => hw2 h
    have key : ∀ g j, cvC (addL12 σ) g j → g ≠ 13 → ad g j ≠ u := fun g j hv hg e => by
      have hv0 := cvadd_12 hv hg
      by_cases h : gN σ 0 = gN σ 2
      · exact hu h g j hv0 e
      · rw [hu2 h] at e
        exact hg (hR.2 g j 13 0 hv0 ⟨rfl, Nat.lt_of_lt_of_le (Nat.zero_lt_of_lt (Nat.lt_of_le_of_ne hok2 h)) (Nat.le_refl _)⟩ e).1
    by_cases a1 : f = 13 <;> by_cases a2 : g = 13
    · subst a1 a2
      exact ⟨rfl, q1.1.trans q2.1.symm⟩
    · subst a1
      have hi : i = 0 := q1.1
      subst hi
      rw [ad1_at, ad1_ne (fun e => a2 e.1)] at e
      exact absurd e.symm (key g j q2 a2)
    · subst a2
      have hj : j = 0 := q2.1
      subst hj
      rw [ad1_at, ad1_ne (fun e => a1 e.1)] at e
      exact absurd e (key f i q1 a1)
    · rw [ad1_ne (fun e => a1 e.1), ad1_ne (fun e => a2 e.1)] at e
      exact hR.2 f i g j (cvadd_12 q1 a1) (cvadd_12 q2 a2) e
def addL14 (σ : St) : St := pN (pN (pI σ 23 0 0 (gI σ 23 0 0 + 1)) 3 (acap (gN σ 1) (gN σ 3))) 1 (gN σ 1 + 1)
theorem els_14 (h : HC D dA A0 ad σ H) (hok : gN σ 1 ≤ gN σ 6) : ELS D (adL ad 14 15 18) (stL σ 23 1 3) H := by
  intro j hj
  have hj : j < gN σ 1 := hj
  have hv : cvC σ 18 j := Nat.lt_of_lt_of_le hj hok
  refine ⟨⟨5, _, Or.inr rfl, WW_at h hv⟩, fun f i q => ?_⟩
  match f, q with
  | 0, q => exact fun e => absurd (h.2 18 j 14 0 hv rfl e).1 (by decide)
  | 1, q => exact fun e => absurd (h.2 18 j 15 0 hv ⟨rfl, q.2⟩ e).1 (by decide)
  | f + 2, q => exact absurd q (by simp [cvA])
theorem cvadd_14 {f i : Nat} (h : cvC (addL14 σ) f i) (hf : f ≠ 15) : cvC σ f i := by
  unfold addL14 at h
  match f, h, hf with
  | 0, h, hf => exact h
  | 1, h, hf => exact h
  | 2, h, hf => exact h
  | 3, h, hf => exact h
  | 4, h, hf => exact h
  | 5, h, hf => exact h
  | 6, h, hf => exact h
  | 7, h, hf => exact h
  | 8, h, hf => exact h
  | 9, h, hf => exact h
  | 10, h, hf => exact h
  | 11, h, hf => exact h
  | 12, h, hf => exact h
  | 13, h, hf => exact h
  | 14, h, hf => exact h
  | 15, h, hf => exact absurd rfl hf
  | 16, h, hf => exact h
  | 17, h, hf => exact h
  | 18, h, hf => exact h
  | 19, h, hf => exact h
  | f + 20, h, hf => exact absurd h (by simp [cvC])
theorem ctadd_14 {f i q : Nat} (h : cvC σ f i) (h0 : f ≠ 14) (h1 : f ≠ 15) : ctC dA (ad1 ad 15 0 q) (addL14 σ) f i = ctC dA ad σ f i := by
  unfold addL14
  match f, h, h0, h1 with
  | 0, h, h0, h1 => simp [ctC, ad1, gI_pN, gL_pN, gN_pN, gI_pI, gL_pI, gN_pI]
  | 1, h, h0, h1 => simp [ctC, ad1, gI_pN, gL_pN, gN_pN, gI_pI, gL_pI, gN_pI]
  | 2, h, h0, h1 => simp [ctC, ad1, gI_pN, gL_pN, gN_pN, gI_pI, gL_pI, gN_pI]
  | 3, h, h0, h1 => simp [ctC, ad1, gI_pN, gL_pN, gN_pN, gI_pI, gL_pI, gN_pI]
  | 4, h, h0, h1 => simp [ctC, ad1, gI_pN, gL_pN, gN_pN, gI_pI, gL_pI, gN_pI]
  | 5, h, h0, h1 => simp [ctC, ad1, gI_pN, gL_pN, gN_pN, gI_pI, gL_pI, gN_pI]
  | 6, h, h0, h1 => simp [ctC, ad1, gI_pN, gL_pN, gN_pN, gI_pI, gL_pI, gN_pI]
  | 7, h, h0, h1 => simp [ctC, ad1, gI_pN, gL_pN, gN_pN, gI_pI, gL_pI, gN_pI]
  | 8, h, h0, h1 => simp [ctC, ad1, gI_pN, gL_pN, gN_pN, gI_pI, gL_pI, gN_pI]
  | 9, h, h0, h1 => simp [ctC, ad1, gI_pN, gL_pN, gN_pN, gI_pI, gL_pI, gN_pI]
  | 10, h, h0, h1 => simp [ctC, ad1, gI_pN, gL_pN, gN_pN, gI_pI, gL_pI, gN_pI]
  | 11, h, h0, h1 => simp [ctC, ad1, gI_pN, gL_pN, gN_pN, gI_pI, gL_pI, gN_pI]
  | 12, h, h0, h1 => simp [ctC, ad1, gI_pN, gL_pN, gN_pN, gI_pI, gL_pI, gN_pI]
  | 13, h, h0, h1 => simp [ctC, ad1, gI_pN, gL_pN, gN_pN, gI_pI, gL_pI, gN_pI]
  | 14, h, h0, h1 => exact absurd rfl h0
  | 15, h, h0, h1 => exact absurd rfl h1
  | 16, h, h0, h1 => simp [ctC, ad1, gI_pN, gL_pN, gN_pN, gI_pI, gL_pI, gN_pI]
  | 17, h, h0, h1 => simp [ctC, ad1, gI_pN, gL_pN, gN_pN, gI_pI, gL_pI, gN_pI]
  | 18, h, h0, h1 => simp [ctC, ad1, gI_pN, gL_pN, gN_pN, gI_pI, gL_pI, gN_pI]
  | 19, h, h0, h1 => simp [ctC, ad1, gI_pN, gL_pN, gN_pN, gI_pI, gL_pI, gN_pI]
  | f + 20, h, h0, h1 => exact absurd h (by simp [cvC])
set_option maxHeartbeats 4000000 in
theorem ls_add14 {idx x mi : Nat} (hC : CTX p s m args meth c cc nL own ret) (hK : KS D dA s) (hA : ∀ q, s.heap.size ≤ q → A0 q) (hR : HC D dA A0 ad σ H) (hS : va_S A0 s.heap H locs) (hX : EXT x mi A0 s s.heap) (hx0 : gN σ 3 = 0 → ad 15 0 = x) (hok : gN σ 1 < gN σ 6) (hok2 : gN σ 1 ≤ gN σ 3) (hok3 : gN σ 3 ≤ 1000000) (hl : lv_has ls nL lv) (hlink : Cond.methodLink own idx yJx4a65c_add_9ea2d ∈ WU) (hroom : 6 + 1 ≤ R.frames ∧ 8 + (2 + 11) + 156 ≤ R.locals) (hW : 2 * (F0 m pc ls (.ref (ad 18 (gN σ 1)) :: .ref (ad 14 0) :: rest)).monitorRoom + (rest.map fun v => v.category).sum ≤ 8) (hcs : cells + amc (gN σ 1) (gN σ 3) ≤ R.cells ∧ slots + ams (gN σ 1) (gN σ 3) ≤ R.slots) (hdg : decode cc pc = .ok (.invokevirtual idx, 3))
    (kk : ∀ (q : Nat) (H1 : Heap) (locs1 : List Loc), HC D dA A0 (ad1 ad 15 0 q) (addL14 σ) H1 → va_S A0 s.heap H1 locs1 → W p l e R s m args below meth c H1 locs1 (cells + amc (gN σ 1) (gN σ 3)) (slots + ams (gN σ 1) (gN σ 3)) Q (F0 m (pc + 3) ls (.int 1 :: rest))) : W p l e R s m args below meth c H locs cells slots Q (F0 m pc ls (.ref (ad 18 (gN σ 1)) :: .ref (ad 14 0) :: rest)) := by
  obtain ⟨hx, hb, hml, hown, hts, hr, hlk⟩ := id hC
  have hB := sub_14 hR
  have hvn : cvC σ 18 (gN σ 1) := hok
  have hE := els_14 hR (Nat.le_of_lt hok)
  have hyn : ∀ f i, cvA (stL σ 23 1 3) f i → ad 18 (gN σ 1) ≠ (adL ad 14 15 18) f i := fun f i q => by
    match f, q with
    | 0, q => exact fun e => absurd (hR.2 18 _ 14 0 hvn rfl e).1 (by decide)
    | 1, q => exact fun e => absurd (hR.2 18 _ 15 0 hvn ⟨rfl, q.2⟩ e).1 (by decide)
    | f + 2, q => exact absurd q (by simp [cvA])
  have hy : EL D H (ad 18 (gN σ 1)) := ⟨5, _, Or.inr rfl, WW_at hR hvn⟩
  have hfit := fits_14 hA hR hS
  refine va_calli (va_runV (As := [.ref (ad 18 (gN σ 1))]) (rest := rest) ⟨hx, hb, hml, hown, hts⟩ (c_add1 l D dA (adL ad 14 15 18) (stL σ 23 1 3) x mi H.size (ad 18 (gN σ 1)) hok2 hok3 hyn) (cwV 1 hts (gV_of hlink q_451 q_452 q_38 q_453) rfl rfl rfl (by decide +kernel) hroom) ⟨fun a U g mk q => ?_, va_recv hK.1 (WW_one hB (f := 0) (i := 0) rfl) (q0 := 0) (ci := 0) rfl rfl, fun U hU hW => ⟨rfl, ⟨by rw [hU], by rw [hU]; exact WW_weaken hB (fun _ _ => trivial), KS_warm hW hK, EXT_at hX hS hfit hU hW, hx0, by rw [hU]; exact hE⟩, by rw [hU]; exact hy⟩⟩ rfl rfl hl.1 rfl hW hdg hcs) hS (fun q _ h => hfit q h) (fun q h => hfit q h) (fun r' u t H1 locs1 ht hvm hw hB1 hz hk hS1 => ?_)
  · obtain ⟨q0, ⟨q1, q2, q3, q4, q5⟩, q6⟩ := q
    exact ⟨q0, ⟨q1, q2, KS_calling q3, EXT_calling q4, q5⟩, q6⟩
  obtain ⟨hw1, hw2, hw3⟩ := hw
  subst hw1
  rw [ht] at hB1
  refine kk u H1 locs1 (WW_merge hR hfit hB1 hk (fun g j hv => ?_) (fun f i g j q1 q2 e => ?_)) hS1
  · by_cases h0 : g = 14
    · subst h0
      have hj : j = 0 := hv
      subst hj
      refine Or.inr ⟨0, 0, rfl, rfl, ?_⟩
      have e2 : ad1 (ad1 (adL ad 14 15 18) 1 0 u) 2 (gN (stL σ 23 1 3) 0) (ad 18 (gN σ 1)) 1 0 = u := (ad1_ne (fun e => absurd e.1 (by decide))).trans (ad1_at _ _ _ _)
      have e3 : ad1 ad 15 0 u 15 0 = u := ad1_at _ _ _ _
      simp only [ctC, ctA, e2, e3]
      rfl
    by_cases h1 : g = 15
    · subst h1
      have hj : j = 0 := hv.1
      subst hj
      refine Or.inr ⟨1, 0, ⟨rfl, hv.2⟩, ?_, ?_⟩
      · exact (ad1_at ad 15 0 u).trans ((ad1_ne (fun e => absurd e.1 (by decide))).trans (ad1_at _ _ _ _)).symm
      · have ef : (fun j => if j < gN σ 1 + 1 then some (ad1 ad 15 0 u 18 j) else none) = (fun j => if j < gN σ 1 + 1 then some (ad1 (ad1 (adL ad 14 15 18) 1 0 u) 2 (gN σ 1) (ad 18 (gN σ 1)) 2 j) else none) := by
          funext j
          have e4 : ad1 ad 15 0 u 18 j = ad 18 j := ad1_ne (fun e => absurd e.1 (by decide))
          have e5 : ad1 (ad1 (adL ad 14 15 18) 1 0 u) 2 (gN σ 1) (ad 18 (gN σ 1)) 2 j = ad 18 j := by
            by_cases hj : j = gN σ 1
            · subst hj; exact ad1_at _ _ _ _
            · exact (ad1_ne (fun e => hj e.2)).trans (ad1_ne (fun e => absurd e.1 (by decide)))
          rw [e4, e5]
        show (Sum.inl (dA 6, acap (gN σ 1) (gN σ 3), rfs (fun j => if j < gN σ 1 + 1 then some (ad1 ad 15 0 u 18 j) else none)) : va_E) = (Sum.inl (dA 6, acap (gN σ 1) (gN σ 3), rfs (fun j => if j < gN σ 1 + 1 then some (ad1 (ad1 (adL ad 14 15 18) 1 0 u) 2 (gN σ 1) (ad 18 (gN σ 1)) 2 j) else none)) : va_E)
        rw [ef]
    have hv0 := cvadd_14 hv h1
    exact Or.inl ⟨hv0, ad1_ne (fun e => h1 e.1), ctadd_14 hv0 h0 h1, out_14 hR hv0 h0 h1⟩
  · have hu : gN σ 1 = gN σ 3 → ∀ g j, cvC σ g j → ad g j ≠ u := fun h g j hv e => absurd (WW_lt hR hv) (by rw [e]; exact Nat.not_lt.mpr (hw3 h))
    have hu2 : gN σ 1 ≠ gN σ 3 → u = ad 15 0 := fun h => hw2 h
    have key : ∀ g j, cvC (addL14 σ) g j → g ≠ 15 → ad g j ≠ u := fun g j hv hg e => by
      have hv0 := cvadd_14 hv hg
      by_cases h : gN σ 1 = gN σ 3
      · exact hu h g j hv0 e
      · rw [hu2 h] at e
        exact hg (hR.2 g j 15 0 hv0 ⟨rfl, Nat.lt_of_lt_of_le (Nat.zero_lt_of_lt (Nat.lt_of_le_of_ne hok2 h)) (Nat.le_refl _)⟩ e).1
    by_cases a1 : f = 15 <;> by_cases a2 : g = 15
    · subst a1 a2
      exact ⟨rfl, q1.1.trans q2.1.symm⟩
    · subst a1
      have hi : i = 0 := q1.1
      subst hi
      rw [ad1_at, ad1_ne (fun e => a2 e.1)] at e
      exact absurd e.symm (key g j q2 a2)
    · subst a2
      have hj : j = 0 := q2.1
      subst hj
      rw [ad1_at, ad1_ne (fun e => a1 e.1)] at e
      exact absurd e (key f i q1 a1)
    · rw [ad1_ne (fun e => a1 e.1), ad1_ne (fun e => a2 e.1)] at e
      exact hR.2 f i g j (cvadd_14 q1 a1) (cvadd_14 q2 a2) e
end LSA

