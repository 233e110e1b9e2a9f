/-! PURE: haircuts in their bounds; what is told of moves and kinds -/
theorem hG_b {g x : Int32} (hg : 1 ≤ g.toInt ∧ g.toInt ≤ 130) (hx : x.toInt ≤ 130) : g.toInt ≤ (hG g x).toInt ∧ (hG g x).toInt ≤ 130 := by
  rw [hG_i]
  split <;> omega
theorem hL_b {l x : Int32} (hl : 1 ≤ l.toInt) : 1 ≤ (hL l x).toInt ∧ (hL l x).toInt ≤ l.toInt := by
  rw [hL_i]
  split
  · omega
  · split <;> omega
theorem hcut_b {g l last : Int32} (hl : 1 ≤ l.toInt ∧ l.toInt ≤ g.toInt) (hg : g.toInt ≤ 130) (h1 : 1 ≤ last.toInt ∧ last.toInt ≤ 130) : 10 ≤ (hcut g l last).toInt ∧ (hcut g l last).toInt ≤ 90 := by
  have e1 : (g - l).toInt = g.toInt - l.toInt := sub32 rfl rfl (by omega) (by omega)
  have e100 : (100 : Int32).toInt = 100 := by decide
  have e2 : ((g - l) * 100).toInt = (g.toInt - l.toInt) * 100 := mul32 e1 e100 (by omega) (by omega)
  have e3 : ((g - l) * 100 + last).toInt = (g.toInt - l.toInt) * 100 + last.toInt := add32 e2 rfl (by omega) (by omega)
  have e4 : ((g - l) * 100 + last - 1).toInt = (g.toInt - l.toInt) * 100 + last.toInt - 1 := sub32 (B := 1) e3 (by decide) (by omega) (by omega)
  have hn1 : last ≠ -1 := fun e => by rw [e] at h1; exact absurd h1.1 (by decide)
  have h0 : 0 ≤ (g.toInt - l.toInt) * 100 + last.toInt - 1 := by omega
  have e5 : (((g - l) * 100 + last - 1) / last).toInt = ((g.toInt - l.toInt) * 100 + last.toInt - 1) / last.toInt := by
    rw [Int32.toInt_div_of_ne_right _ _ hn1, e4, Int.tdiv_eq_ediv_of_nonneg h0]
  have d0 := Int.ediv_nonneg h0 (show 0 ≤ last.toInt by omega)
  have d1 : ((g.toInt - l.toInt) * 100 + last.toInt - 1) / last.toInt ≤ (g.toInt - l.toInt) * 100 + last.toInt - 1 := Int.ediv_le_self _ h0
  have e6 : (10 + ((g - l) * 100 + last - 1) / last).toInt = 10 + ((g.toInt - l.toInt) * 100 + last.toInt - 1) / last.toInt := add32 (A := 10) (by decide) e5 (by omega) (by omega)
  unfold hcut
  by_cases c : (90 : Int32) ≤ 10 + ((g - l) * 100 + last - 1) / last
  · rw [if_pos c]
    decide
  · have c' := mt (le32 (A := 90) (by decide) e6).mpr c
    rw [if_neg c, e6]
    omega
theorem hair_b {σ τ : St} {K : Int} (hI : IK σ τ) (hK : MG K τ) {k : Nat} (hk : k < 2) : 10 ≤ (sHair τ k).toInt ∧ (sHair τ k).toInt ≤ 90 := by
  obtain ⟨-, -, r1, r2, -⟩ := hI k hk
  obtain ⟨-, -, -, -, -, -, h7, -⟩ := hK
  obtain ⟨q0, q1, q2, q3⟩ := h7 k hk
  obtain ⟨a1, a2⟩ := hG_b (g := kq τ k 0) (x := kq τ k 1) ⟨r1, q0⟩ q1
  obtain ⟨b1, b2⟩ := hG_b (x := kq τ k 2) ⟨by omega, a2⟩ q2
  obtain ⟨c1, c2⟩ := hG_b (x := kq τ k 3) ⟨by omega, b2⟩ q3
  obtain ⟨d1, d2⟩ := hL_b (x := kq τ k 1) r1
  obtain ⟨e1, e2⟩ := hL_b (x := kq τ k 2) d1
  obtain ⟨f1, f2⟩ := hL_b (x := kq τ k 3) e1
  exact hcut_b ⟨f1, by omega⟩ c2 ⟨r1, q0⟩
theorem kq_b {σ τ : St} {K : Int} (hI : IK σ τ) (hK : MG K τ) {k : Nat} (hk : k < 2) : 1 ≤ (kq τ k 0).toInt ∧ (kq τ k 0).toInt ≤ 130 := ⟨(hI k hk).2.2.1, (hK.2.2.2.2.2.2.1 k hk).1⟩
theorem sWor_b {σ τ : St} {K : Int} (hI : IK σ τ) (hK : MG K τ) {k : Nat} (hk : k < 2) {u : Int32} (hu : 0 ≤ u.toInt ∧ u.toInt ≤ 1000) : (sWor τ k u).toInt = u.toInt * (kq τ k 0).toInt * (100 - (sHair τ k).toInt) / 100 ∧ 0 ≤ (sWor τ k u).toInt ∧ (sWor τ k u).toInt ≤ 130000 := by
  obtain ⟨h1, h2, h3⟩ := wor_b (kq_b hI hK hk) hu (hair_b hI hK hk)
  unfold sWor
  rw [h1]
  exact ⟨rfl, h2, h3⟩
theorem sCol_b {σ τ : St} {K : Int} (hI : IK σ τ) (hK : MG K τ) {m : Nat} (hm : m < 5) : coI τ m = (sWor τ 0 (gI τ 7 0 (2 * m + 0))).toInt + (sWor τ 1 (gI τ 7 0 (2 * m + 1))).toInt ∧ 0 ≤ coI τ m ∧ coI τ m ≤ 260000 := by
  have hU := hK.2.2.2.2.2.1
  have w0 := sWor_b hI hK (k := 0) (by omega) (hU (2 * m + 0) (by omega))
  have w1 := sWor_b hI hK (k := 1) (by omega) (hU (2 * m + 1) (by omega))
  have e : coI τ m = (sWor τ 0 (gI τ 7 0 (2 * m + 0))).toInt + (sWor τ 1 (gI τ 7 0 (2 * m + 1))).toInt := by
    unfold coI sCol
    rw [Int64.zero_add, add64 rfl rfl (by omega) (by omega)]
  exact ⟨e, by omega, by omega⟩
theorem G_IK {B : Int} {σ τ : St} (h : G B σ τ) : IK σ τ := h.1.2.2.2.2.2.1
theorem move_B {n : Nat} {σ1 σ2 τ : St} (h1 : INV n σ1 τ) (h2 : INV n σ2 τ) {v p : Nat} (hv : v < 4) (hp : p < 3) {c : Int32} (hc : -500 ≤ c.toInt ∧ c.toInt ≤ 500) : ∃ s1 s2 m k, fL_both σ1 σ2 1 (nI v) (nI p) c = some ((gI τ 2 0 (3 * v + p), s1, s2), m, k) ∧ INV (n + 1) s1 (pI (pI τ 23 0 0 0) 2 0 (3 * v + p) c) ∧ INV (n + 1) s2 (pI (pI τ 23 0 0 0) 2 0 (3 * v + p) c) ∧ m + (pot σ1 + pot σ2) ≤ pot s1 + pot s2 + 200 ∧ k + (pot σ1 + pot σ2) ≤ pot s1 + pot s2 + 200 := by
  obtain ⟨z, s1, s2, τ', m, k, r, e, i1, i2, t, hz, q1, q2⟩ := both_of (fun σ => does_setMove σ (nI v) (nI p) c) (STEP_T (c_setMove h1 (nI v) (nI p) c)) (STEP_T (c_setMove h2 (nI v) (nI p) c)) P1_ok.1 P1_ok.2
  obtain ⟨er, et⟩ := Prod.mk.inj (Option.some.inj ((Y_move τ hv hp hc).symm.trans t))
  subst et
  have e9 : z = gI τ 2 0 (3 * v + p) := (z_ok rfl hz).trans er.symm
  subst e9
  exact ⟨s1, s2, m, k, e, i1, i2, q1, q2⟩
theorem MG_kn {K : Int} {σ τ τ' : St} {k : Nat} {v : Int32} (hI : IK σ τ) (hI' : IK σ τ' ∨ ∃ s, IK s τ') (hO : BO τ) (h : KNx τ τ' k v) (hv : v.toInt ≤ 130) (hkk : ∀ j, j < 4 → (kq τ' k j).toInt ≤ 130) (hK : MG K τ) (hK2 : K + 9000000 ≤ 2000000000) : MG (K + 9000000) τ' := by
  obtain ⟨s, hI'⟩ : ∃ s, IK s τ' := hI'.elim (fun q => ⟨σ, q⟩) id
  have gi : ∀ f i j, f ≠ 23 → f ≠ 3 → gI τ' f i j = gI τ f i j := h.1
  have gl : ∀ f i j, gL τ' f i j = gL τ f i j := fun f i j => by unfold gL; rw [h.2.1]
  have htn : tn τ' = tn τ := by unfold tn; rw [gi 21 0 0 (by decide) (by decide)]
  have hl0 := lf_sum hO
  have hlf : sm (lf τ') (tn τ') = sm (lf τ) (tn τ) := by
    rw [htn]
    exact sm_congr (fun k _ => by unfold lf; rw [gi 15 0 _ (by decide) (by decide)])
  have heq : ∀ m, eqI τ' m = eqI τ m := fun m => by
    unfold eqI sEq sDif
    simp only [gl, gi 4 0 _ (by decide) (by decide), gi 1 0 _ (by decide) (by decide)]
  have hsh : ∀ m, shI τ' m = shI τ m := fun m => by unfold shI; rw [gl]
  have hun : unI τ' = unI τ := by unfold unI; rw [gl]
  have h7' : ∀ q, q < 2 → (kq τ' q 0).toInt ≤ 130 ∧ (kq τ' q 1).toInt ≤ 130 ∧ (kq τ' q 2).toInt ≤ 130 ∧ (kq τ' q 3).toInt ≤ 130 := fun q hq => by
    by_cases c : q = k
    · subst c
      exact ⟨hkk 0 (by omega), hkk 1 (by omega), hkk 2 (by omega), hkk 3 (by omega)⟩
    · rw [h.2.2.2 q c 0 (by omega), h.2.2.2 q c 1 (by omega), h.2.2.2 q c 2 (by omega), h.2.2.2 q c 3 (by omega)]
      exact hK.2.2.2.2.2.2.1 q hq
  have hK0 := hK
  obtain ⟨h1, h2, h3, h4, h5, h6, h7, h8⟩ := hK
  have hU : ∀ j, j < 10 → 0 ≤ (gI τ' 7 0 j).toInt ∧ (gI τ' 7 0 j).toInt ≤ 1000 := fun j hj => by rw [gi 7 0 _ (by decide) (by decide)]; exact h6 j hj
  -- what the members bring counts for no more than this
  have hw : ∀ q, q < 2 → ∀ u : Int32, 0 ≤ u.toInt ∧ u.toInt ≤ 1000 → 0 ≤ (sWor τ' q u).toInt ∧ (sWor τ' q u).toInt ≤ 130000 := fun q hq u hu => by
    obtain ⟨-, -, r1, r2, -⟩ := hI' q hq
    obtain ⟨q0, q1, q2, q3⟩ := h7' q hq
    obtain ⟨a1, a2⟩ := hG_b (g := kq τ' q 0) (x := kq τ' q 1) ⟨r1, q0⟩ q1
    obtain ⟨b1, b2⟩ := hG_b (x := kq τ' q 2) ⟨by omega, a2⟩ q2
    obtain ⟨c1, c2⟩ := hG_b (x := kq τ' q 3) ⟨by omega, b2⟩ q3
    obtain ⟨d1, d2⟩ := hL_b (x := kq τ' q 1) r1
    obtain ⟨e1, e2⟩ := hL_b (x := kq τ' q 2) d1
    obtain ⟨f1, f2⟩ := hL_b (x := kq τ' q 3) e1
    obtain ⟨x1, x2, x3⟩ := wor_b (p := kq τ' q 0) (h := sHair τ' q) ⟨r1, q0⟩ hu (hcut_b ⟨f1, by omega⟩ c2 ⟨r1, q0⟩)
    unfold sWor
    rw [x1]
    exact ⟨x2, x3⟩
  have hco : ∀ m, m < 5 → 0 ≤ coI τ' m ∧ coI τ' m ≤ 260000 := fun m hm => by
    have w0 := hw 0 (by omega) _ (hU (2 * m + 0) (by omega))
    have w1 := hw 1 (by omega) _ (hU (2 * m + 1) (by omega))
    unfold coI sCol
    rw [Int64.zero_add, add64 rfl rfl (by omega) (by omega)]
    omega
  refine ⟨hK2, fun q hq => by unfold prI; rw [gi 1 0 _ (by decide) (by decide)]; exact h2 q hq, fun j hj => by rw [gi 14 0 _ (by decide) (by decide)]; exact h3 j (by rw [← htn]; exact hj), fun m hm => ⟨by rw [hsh]; exact (h4 m hm).1, (hco m hm).1⟩, by rw [hun]; exact h5, hU, h7', ?_⟩
  have c0 := hco 0 (by omega)
  have c1 := hco 1 (by omega)
  have c2 := hco 2 (by omega)
  have c3 := hco 3 (by omega)
  have c4 := hco 4 (by omega)
  have d0 := (h4 0 (by omega)).2
  have d1 := (h4 1 (by omega)).2
  have d2 := (h4 2 (by omega)).2
  have d3 := (h4 3 (by omega)).2
  have d4 := (h4 4 (by omega)).2
  unfold PSI at h8 ⊢
  rw [sm5] at h8 ⊢
  rw [hlf, hun]
  simp only [heq, hsh]
  omega
theorem L_tells {K : Int} {n c N a b : Nat} {σ1 σ2 τ : St} (hK2 : K + 9000000 ≤ 2000000000) (h : HV K n c σ1 σ2 τ a b) (hN : tn τ = N) (z : Int32) : LQ (fL_tells σ1 σ2 z) a b (SDN (K + 9000000) (n + 3) (c + 1200) N) := by
  obtain ⟨w, hw, ew⟩ := some_of σ1 z 4 (by omega) (by omega)
  have ew : fL_some σ1 z 4 = some (nI w) := ew
  obtain ⟨p, hp, ep⟩ := some_of σ1 (z >>> (2 &&& 31)) 3 (by omega) (by omega)
  have ep : fL_some σ1 (z >>> (2 &&& 31)) 3 = some (nI p) := ep
  unfold fL_tells
  refine LQ_bd ew (LQ_bd ep ?_)
  by_cases c2 : 2 ≤ w
  · refine LQ_if (show (2 : Int32) ≤ nI w from nI_le (a := 2) c2 (by omega)) ?_
    obtain ⟨h1, h2, hG, ha, hb⟩ := h
    by_cases c3 : 3 ≤ w
    · refine LQ_if (show (3 : Int32) ≤ nI w from nI_le (a := 3) c3 (by omega)) ?_
      obtain ⟨k, hk, ek⟩ := some_of σ1 (z >>> (4 &&& 31)) 2 (by omega) (by omega)
      have ek : fL_some σ1 (z >>> (4 &&& 31)) 2 = some (nI k) := ek
      obtain ⟨j, hj, ej⟩ := some_of σ1 (z >>> (6 &&& 31)) 61 (by omega) (by omega)
      have ej : fL_some σ1 (z >>> (6 &&& 31)) 61 = some (nI j) := ej
      refine LQ_bd ek (LQ_bd ej ?_)
      have hv : (70 + nI j).toInt = 70 + (j : Int) := add32 (A := 70) (by decide) (nI_toInt (by omega)) (by omega) (by omega)
      obtain ⟨z9, s1, s2, τ', m, k9, r, e, i1, i2, t, hz, q1, q2⟩ := both_of (fun σ => does_tellKind σ (nI k) (70 + nI j) 0) (c_tellKind h1 (nI k) (70 + nI j)) (c_tellKind h2 (nI k) (70 + nI j)) P1_ok.1 P1_ok.2
      rcases t with ⟨-, t⟩ | ⟨k', hk', ekk, t23, er, et⟩
      · exact absurd ⟨⟨k, hk, rfl⟩, by omega, by omega⟩ t
      have ekk : k = k' := (nI_eq (by omega) (by omega)).mp ekk
      subst ekk
      have hKN : KNx τ τ' k (70 + nI j) := by rw [et]; exact KN_1 τ _
      have hkq : ∀ q, q < 4 → (kq τ' k q).toInt ≤ 130 := fun q hq => by
        obtain ⟨a0, a1, a2, a3⟩ := tkT_at (pI τ 23 0 0 0) (k := k) (k' := k) (70 + nI j)
        rw [if_pos rfl] at a0 a1 a2 a3
        obtain ⟨g0, g1, g2, g3⟩ := hG.2.2.2.2.2.2.1 k hk
        rw [et]
        rcases (show q = 0 ∨ q = 1 ∨ q = 2 ∨ q = 3 by omega) with rfl | rfl | rfl | rfl
        · rw [a0]; omega
        · rw [a1]; exact g0
        · rw [a2]; exact g1
        · rw [a3]; exact g2
      have hMG := MG_kn (G_IK h1.1) (Or.inr ⟨s1, G_IK i1.1⟩) (G_BO h1.1) hKN (by omega) hkq hG hK2
      have hz9 : z9 = sHair τ' k := by rw [z_ok t23 hz, er, et]
      subst hz9
      have hh := hair_b (G_IK i1.1) hMG hk
      refine LQ_bt e ?_
      refine LQ_ifn (show ¬ sHair τ' k ≤ 9 from fun q => by have := (le32 (b := 9) (B := 9) rfl (by decide)).mp q; omega) ?_
      refine LQ_ifn (show ¬ (91 : Int32) ≤ sHair τ' k from fun q => by have := (le32 (a := 91) (A := 91) (by decide) rfl).mp q; omega) ?_
      refine LQ_y0 (A_hair i1 hk) ?_
      refine LQ_ifn (not_not_intro rfl) ?_
      have htn : tn τ' = tn τ := by unfold tn; rw [hKN.1 21 0 0 (by decide) (by decide)]
      refine LQ_ok ⟨rfl, τ', ⟨INV_le i1 (by omega), INV_le i2 (by omega), hMG, ?_, ?_⟩, htn.trans hN⟩
      · show a + m ≤ pot s1 + pot s2 + (c + 1200)
        omega
      · show b + k9 ≤ pot s1 + pot s2 + (c + 1200)
        omega
    · refine LQ_ifn (show ¬ (3 : Int32) ≤ nI w from nI_ge (a := w) (b := 3) (by omega) (by omega)) ?_
      obtain ⟨j, hj, ej⟩ := some_of σ1 (z >>> (6 &&& 31)) 51 (by omega) (by omega)
      have ej : fL_some σ1 (z >>> (6 &&& 31)) 51 = some (nI j) := ej
      refine LQ_bd ej ?_
      obtain ⟨v, hv, ev⟩ := some_of σ1 (z >>> (4 &&& 31)) 4 (by omega) (by omega)
      have ev : fL_some σ1 (z >>> (4 &&& 31)) 4 = some (nI v) := ev
      have hcc : (nI j - 25).toInt = (j : Int) - 25 := sub32 (B := 25) (nI_toInt (by omega)) (by decide) (by omega) (by omega)
      refine LQ_kst (LQ_bd ev ?_)
      obtain ⟨s1, u1, m1, k1, e1, i1, j1, q1, q1'⟩ := move_B h1 h2 hv hp (c := nI j - 25) (by omega)
      refine LQ_bt e1 ?_
      have hbq := ((G_BQ h1.1) p hp).2.2.2 v hv
      refine LQ_ifn (show ¬ gI τ 2 0 (3 * v + p) < (-500) from fun q => by have := (lt32 (b := -500) (B := -500) rfl (by decide)).mp q; omega) ?_
      refine LQ_ifn (show ¬ (500 : Int32) < gI τ 2 0 (3 * v + p) from fun q => by have := (lt32 (a := 500) (A := 500) (by decide) rfl).mp q; omega) ?_
      refine LQ_bd (show fL_some s1 (z >>> (4 &&& 31)) 4 = some (nI v) from ev) ?_
      obtain ⟨s2, u2, m2, k2, e2, i2, j2, q2, q2'⟩ := move_B i1 j1 hv hp (c := nI j - 25) (by omega)
      refine LQ_bt e2 ?_
      have hv1 : gI (pI (pI τ 23 0 0 0) 2 0 (3 * v + p) (nI j - 25)) 2 0 (3 * v + p) = nI j - 25 := by rw [gI_pI, if_pos ⟨rfl, rfl, rfl⟩]
      refine LQ_ifn (not_not_intro hv1) ?_
      refine LQ_ok ⟨rfl, _, ⟨INV_next i2, INV_next j2, MG_mono (MG_move _ _ (MG_move _ _ hG)) (by omega) hK2, ?_, ?_⟩, hN⟩
      · show a + m1 + m2 ≤ pot s2 + pot u2 + (c + 1200)
        omega
      · show b + k1 + k2 ≤ pot s2 + pot u2 + (c + 1200)
        omega
  · refine LQ_ifn (show ¬ (2 : Int32) ≤ nI w from nI_ge (a := w) (b := 2) (by omega) (by omega)) ?_
    obtain ⟨i, hi, ei⟩ := some_of σ1 (z >>> (4 &&& 31)) 5 (by omega) (by omega)
    have ei : fL_some σ1 (z >>> (4 &&& 31)) 5 = some (nI i) := ei
    refine LQ_bd ei ?_
    by_cases ci : nI i = 0
    · refine LQ_ifn (not_not_intro ci) ?_
      obtain ⟨j, hj, ej⟩ := some_of σ1 (z >>> (7 &&& 31)) 400 (by omega) (by omega)
      have ej : fL_some σ1 (z >>> (7 &&& 31)) 400 = some (nI j) := ej
      refine LQ_bd ej ?_
      have hv : (1 + nI j).toInt = 1 + (j : Int) := add32 (A := 1) (by decide) (nI_toInt (by omega)) (by omega) (by omega)
      exact L_tellsJ hK2 h hN z hp (by omega)
    · refine LQ_if ci ?_
      obtain ⟨j, hj, ej⟩ := some_of σ1 (z >>> (7 &&& 31)) 41 (by omega) (by omega)
      have ej : fL_some σ1 (z >>> (7 &&& 31)) 41 = some (nI j) := ej
      refine LQ_bd ej ?_
      have hv : (80 + nI j).toInt = 80 + (j : Int) := add32 (A := 80) (by decide) (nI_toInt (by omega)) (by omega) (by omega)
      exact L_tellsJ hK2 h hN z hp (by omega)
