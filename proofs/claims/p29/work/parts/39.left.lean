/-! PURE: what is left of an order, and a trade behind it -/
def oc1 (τ : St) (k : Nat) : Int := if 0 < lf τ k then 1 else 0
def op (τ : St) : Int := sm (oc1 τ) (tn τ)
theorem op_b (τ : St) : 0 ≤ op τ ∧ op τ ≤ tn τ := by
  have h := sm_bnd (f := oc1 τ) (n := tn τ) (B := 1) (fun k _ => by unfold oc1; split <;> omega)
  unfold op
  omega
theorem op_pos {τ : St} {k : Nat} (hk : k < tn τ) (h : 0 < lf τ k) : 1 ≤ op τ := by
  have h1 := sm_le (f := oc1 τ) hk (fun j _ => by unfold oc1; split <;> omega)
  unfold oc1 at h1
  rw [if_pos h] at h1
  exact h1
theorem pI_comm (σ : St) {f g : Nat} (h : f ≠ g) (i j i' j' : Nat) (v w : Int32) : pI (pI σ f i j v) g i' j' w = pI (pI σ g i' j' w) f i j v := by
  refine Prod.ext ?_ rfl
  funext a b c
  show (if a = g ∧ b = i' ∧ c = j' then w else if a = f ∧ b = i ∧ c = j then v else σ.1 a b c) = if a = f ∧ b = i ∧ c = j then v else if a = g ∧ b = i' ∧ c = j' then w else σ.1 a b c
  by_cases c1 : a = g ∧ b = i' ∧ c = j'
  · rw [if_pos c1, if_neg (fun q => h (q.1.symm.trans c1.1)), if_pos c1]
  · rw [if_neg c1, if_neg c1]
theorem pI_commj (σ : St) {f i j i' j' : Nat} (h : ¬ (i = i' ∧ j = j')) (v w : Int32) : pI (pI σ f i j v) f i' j' w = pI (pI σ f i' j' w) f i j v := by
  refine Prod.ext ?_ rfl
  funext a b c
  show (if a = f ∧ b = i' ∧ c = j' then w else if a = f ∧ b = i ∧ c = j then v else σ.1 a b c) = if a = f ∧ b = i ∧ c = j then v else if a = f ∧ b = i' ∧ c = j' then w else σ.1 a b c
  by_cases c1 : a = f ∧ b = i' ∧ c = j'
  · rw [if_pos c1, if_neg (fun q => h ⟨q.2.1.symm.trans c1.2.1, q.2.2.symm.trans c1.2.2⟩), if_pos c1]
  · rw [if_neg c1, if_neg c1]
theorem pI_pL (σ : St) (f i j f' i' j' : Nat) (v : Int64) (w : Int32) : pI (pL σ f i j v) f' i' j' w = pL (pI σ f' i' j' w) f i j v := rfl
theorem trT_pI (τ : St) (b s p : Nat) (q x : Int32) (k : Nat) (v : Int32) : pI (trT τ b s p q x) 15 0 k v = trT (pI τ 15 0 k v) b s p q x := by
  unfold trT
  rw [pI_comm _ (show 22 ≠ 15 by omega), pI_pL _ _ _ _ 15 0 k, pI_pL _ _ _ _ 15 0 k, pI_comm _ (show 4 ≠ 15 by omega), pI_comm _ (show 4 ≠ 15 by omega)]
  rfl
theorem lf_pI (τ : St) (k : Nat) (v : Int32) (j : Nat) : lf (pI τ 15 0 k v) j = if j = k then v.toInt else lf τ j := by
  unfold lf
  rw [gI_pI]
  simp only [true_and]
  split <;> rfl
theorem lf_sum_pI {τ : St} {k : Nat} (hk : k < tn τ) (v : Int32) : sm (lf (pI τ 15 0 k v)) (tn τ) = sm (lf τ) (tn τ) - lf τ k + v.toInt := by
  rw [sm_upd (f := lf τ) (g := lf (pI τ 15 0 k v)) hk (fun j _ hj => by rw [lf_pI, if_neg hj]), lf_pI, if_pos rfl]
theorem op_pI {τ : St} {k : Nat} (hk : k < tn τ) (v : Int32) : op (pI τ 15 0 k v) = op τ - oc1 τ k + if 0 < v.toInt then 1 else 0 := by
  show sm (oc1 (pI τ 15 0 k v)) (tn τ) = _
  rw [sm_upd (f := oc1 τ) (g := oc1 (pI τ 15 0 k v)) hk (fun j _ hj => by unfold oc1; rw [lf_pI, if_neg hj])]
  unfold oc1 op
  rw [lf_pI, if_pos rfl]
  rfl
theorem RR_left {σ τ : St} (h : RR σ τ) {k : Nat} (v : Int32) : RR (pI σ 35 k 0 v) (pI τ 15 0 k v) := by
  obtain ⟨hA, hU, hP, hQ, hO, hK, hW, hN⟩ := h
  refine ⟨hA, hU, hP, hQ, ⟨hO.1, fun j hj => ?_⟩, hK, hW, hN⟩
  obtain ⟨h1, h2, h3, h4, h5, h6⟩ := hO.2 j hj
  refine ⟨h1, h2, h3, h4, h5, ?_⟩
  rw [gI_pI, gI_pI]
  simp only [true_and, and_true]
  by_cases c : j = k
  · rw [if_pos c, if_pos c]
  · rw [if_neg c, if_neg c, h6]
theorem BO_left {τ : St} (h : BO τ) {k : Nat} {v : Int32} (hv : 0 ≤ v.toInt ∧ v.toInt ≤ 100) : BO (pI τ 15 0 k v) := by
  refine ⟨h.1, h.2.1, fun j hj => ?_⟩
  obtain ⟨h1, h2, h3, h4, h5, h6⟩ := h.2.2 j hj
  refine ⟨h1, h2, h3, h4, h5, ?_⟩
  rw [lf_pI]
  split
  · exact hv
  · exact h6
theorem BP_left {τ : St} (h : BP τ) {k : Nat} (hk : k < tn τ) {v : Int32} (hv : v.toInt ≤ lf τ k) : BP (pI τ 15 0 k v) := by
  have e := lf_sum_pI hk v
  unfold BP at h ⊢
  have e2 : sm (lf (pI τ 15 0 k v)) (tn (pI τ 15 0 k v)) = sm (lf τ) (tn τ) - lf τ k + v.toInt := e
  have e3 : tn (pI τ 15 0 k v) = tn τ := rfl
  have e4 : sm (fun j => ((ps (pI τ 15 0 k v) j).natAbs : Int)) 15 = sm (fun j => ((ps τ j).natAbs : Int)) 15 := rfl
  rw [e2, e3, e4]
  omega
theorem RD_left {σ τ : St} (h : RD σ τ) {k : Nat} (hk : k < tn τ) {v : Int32} (h0 : 0 ≤ v.toInt) (hv : v.toInt ≤ lf τ k) : RD (pI σ 35 k 0 v) (pI τ 15 0 k v) := by
  have hO := h.2.2.2.2.2.2.2.2.1
  have hl := lf_ge hO hk
  exact RD_of (RR_left (RD_RR h) v) (BO_left hO ⟨h0, by omega⟩) h.2.2.2.2.2.2.2.2.2.1 (BP_left h.2.2.2.2.2.2.2.2.2.2 hk hv)
theorem IJ_left {σ : St} (h : IJ σ) (k : Nat) (v : Int32) : IJ (pI σ 35 k 0 v) := h
/-- the count of trades is no more than the log has -/
def TC (σ : St) : Prop := ∃ c : Nat, c ≤ gN σ 1 ∧ gI σ 20 0 0 = nI c
/-- all that holds between the calls of a step: B bounds the trades and what is open, together -/
def G (B : Int) (σ τ : St) : Prop := RD σ τ ∧ IC σ ∧ IJ σ ∧ (gN σ 1 : Int) + op τ ≤ B ∧ TC σ
theorem G_BO {B : Int} {σ τ : St} (h : G B σ τ) : BO τ := h.1.2.2.2.2.2.2.2.2.1
theorem G_BP {B : Int} {σ τ : St} (h : G B σ τ) : BP τ := h.1.2.2.2.2.2.2.2.2.2.2
theorem G_BQ {B : Int} {σ τ : St} (h : G B σ τ) : BQ τ := h.1.2.2.2.2.2.2.2.2.2.1
theorem G_IO {B : Int} {σ τ : St} (h : G B σ τ) : IO σ τ := h.1.2.2.2.2.1
theorem G_IP {B : Int} {σ τ : St} (h : G B σ τ) : IP σ τ := h.1.2.2.1
theorem G_IQ {B : Int} {σ τ : St} (h : G B σ τ) : IQ σ τ := h.1.2.2.2.1
theorem G_IA {B : Int} {σ τ : St} (h : G B σ τ) : IA σ τ := h.1.1
theorem G_IN {B : Int} {σ τ : St} (h : G B σ τ) : IN σ := h.1.2.2.2.2.2.2.2.1
theorem IC_scr {σ σ1 : St} (c : scr σ σ1) (h : IC σ) : IC σ1 := by
  unfold IC
  rw [scr_gN c, scr_gN c]
  exact h
theorem IJ_scr {σ σ1 : St} (c : scr σ σ1) (h : IJ σ) : IJ σ1 := by
  obtain ⟨h1, h2⟩ := h
  refine ⟨fun t ht => ?_, fun m hm => ⟨fun p hp => ?_, ?_⟩⟩
  · rw [scr_gN c] at ht
    rw [scr_gI c, scr_gI c]
    exact h1 t ht
  · have e : JA σ1 m p = JA σ m p := by
      unfold JA
      rw [scr_gN c]
      refine sn_congr (fun t _ => ?_)
      unfold jaf sg
      rw [scr_gI c, scr_gI c, scr_gI c, scr_gI c]
    rw [e, scr_gI c]
    exact (h2 m hm).1 p hp
  · have e : JB σ1 m = JB σ m := by
      unfold JB
      rw [scr_gN c]
      refine sn_congr (fun t _ => ?_)
      unfold jbf sg
      rw [scr_gI c, scr_gI c, scr_gI c, scr_gI c]
    rw [e, scr_gL c _ _ _ (by decide), scr_gL c _ _ _ (by decide), scr_gL c _ _ _ (by decide), scr_gL c _ _ _ (by decide), scr_gL c _ _ _ (by decide)]
    exact (h2 m hm).2
theorem G_scr {B : Int} {σ σ1 τ : St} (c : scr σ σ1) (h : G B σ τ) : G B σ1 τ := ⟨RD_scr c h.1, IC_scr c h.2.1, IJ_scr c h.2.2.1, by rw [scr_gN c]; exact h.2.2.2.1, by obtain ⟨k, h1, h2⟩ := h.2.2.2.2; exact ⟨k, by rw [scr_gN c]; exact h1, (scr_gI c ..).trans h2⟩⟩
theorem pot_scr {σ σ1 : St} (c : scr σ σ1) : pot σ1 = pot σ := by
  unfold pot
  rw [scr_gN c, scr_gN c, scr_gN c, scr_gN c]
theorem G_left {B : Int} {σ τ : St} (h : G B σ τ) {k : Nat} (hk : k < tn τ) {v : Int32} (h0 : 0 ≤ v.toInt) (hv : v.toInt ≤ lf τ k) : G B (pI σ 35 k 0 v) (pI τ 15 0 k v) := by
  refine ⟨RD_left h.1 hk h0 hv, h.2.1, IJ_left h.2.2.1 k v, ?_, h.2.2.2.2⟩
  have h1 := h.2.2.2.1
  rw [op_pI hk]
  show (gN σ 1 : Int) + _ ≤ B
  unfold oc1
  split <;> split <;> omega
/-- a trade: the bound on positions is the caller's -/
theorem G_trade {B : Int} {σ τ : St} (h : G B σ τ) (hB : B < 50000) {b s p : Nat} (hb : b < 5) (hs : s < 5) (hp : p < 3) (hbs : b ≠ s) {q x : Int32} (hq : 0 ≤ q.toInt ∧ q.toInt ≤ 20000) (hx : 1 ≤ x.toInt ∧ x.toInt ≤ 9999) (hP : BP (trT τ b s p q x)) :
    G (B + 1) (trS σ b s p q x) (trT τ b s p q x) ∧ (∃ mc ms, fX5_trade σ (nI b) (nI s) (nI p) q x = some (trS σ b s p q x, mc, ms) ∧ mc + pot σ ≤ pot (trS σ b s p q x) ∧ ms + pot σ ≤ pot (trS σ b s p q x)) ∧ (gN (trS σ b s p q x) 1 : Int) + op (trT τ b s p q x) = gN σ 1 + op τ + 1 := by
  obtain ⟨hRD, hC, hJ, hT, c9, hc9, he9⟩ := h
  have ho := op_b τ
  have h5 : gN σ 1 < 50000 := by omega
  have hN := hRD.2.2.2.2.2.2.2.1
  obtain ⟨i1, i2, i3, i4, i5⟩ := tr_IN (b := b) (s := s) (p := p) (q := q) (x := x) hN hC h5
  have e1 : op (trT τ b s p q x) = op τ := rfl
  have hO := hRD.2.2.2.2.2.2.2.2.1
  have bP := hRD.2.2.2.2.2.2.2.2.2.2
  have b1 := ps_bnd hO bP (j := 3 * b + p) (by omega)
  have b2 := ps_bnd hO bP (j := 3 * s + p) (by omega)
  have hIP := hRD.2.2.1
  refine ⟨⟨RD_of (tr_RR (RD_RR hRD) hC h5 hp (by omega)) hO hRD.2.2.2.2.2.2.2.2.2.1 hP, i2, tr_IJ hN hC h5 hJ hb hs hp hbs hx (by omega) (by rw [(hIP b hb p hp).1]; exact b1) (by rw [(hIP s hs p hp).1]; exact b2), ?_, c9 + 1, by rw [i5]; omega, by show gI σ 20 0 0 + 1 = _; rw [he9, nI_1]⟩, ⟨_, _, x_trade hN h5 hb hs hp q x, i3, i4⟩, ?_⟩
  · rw [i5, e1]; omega
  · rw [i5, e1]; omega
/-- what a trade with resting orders leaves of the other numbers -/
def FR0 (τ τ' : St) : Prop := (∀ m, gI τ' 10 0 m = gI τ 10 0 m) ∧ (∀ m, gI τ' 9 0 m = gI τ 9 0 m) ∧ (∀ m, gL τ' 8 0 m = gL τ 8 0 m) ∧ gI τ' 23 0 0 = gI τ 23 0 0 ∧ gI τ' 21 0 0 = gI τ 21 0 0 ∧ SM τ τ' ∧ MN τ τ'
theorem FR0_rfl (τ : St) : FR0 τ τ := ⟨fun _ => rfl, fun _ => rfl, fun _ => rfl, rfl, rfl, SM_rfl τ, MN_rfl τ⟩
theorem FR0_tr {a b c : St} (h1 : FR0 a b) (h2 : FR0 b c) : FR0 a c := ⟨fun m => (h2.1 m).trans (h1.1 m), fun m => (h2.2.1 m).trans (h1.2.1 m), fun m => (h2.2.2.1 m).trans (h1.2.2.1 m), h2.2.2.2.1.trans h1.2.2.2.1, h2.2.2.2.2.1.trans h1.2.2.2.2.1, SM_tr h1.2.2.2.2.2.1 h2.2.2.2.2.2.1, MN_tr h1.2.2.2.2.2.2 h2.2.2.2.2.2.2⟩
def FR (τ τ' : St) : Prop := FR0 τ τ' ∧ (∀ k, gI τ' 17 0 k = gI τ 17 0 k) ∧ (∀ k, gI τ' 18 0 k = gI τ 18 0 k)
theorem FR_rfl (τ : St) : FR τ τ := ⟨FR0_rfl τ, fun _ => rfl, fun _ => rfl⟩
theorem FR_tr {a b c : St} (h1 : FR a b) (h2 : FR b c) : FR a c := ⟨FR0_tr h1.1 h2.1, fun k => (h2.2.1 k).trans (h1.2.1 k), fun k => (h2.2.2 k).trans (h1.2.2 k)⟩
theorem SM_left (τ : St) (k : Nat) (v : Int32) : SM τ (pI τ 15 0 k v) := ⟨fun _ => rfl, fun _ => rfl, rfl, fun _ => rfl, fun _ => rfl, rfl, fun _ => rfl, fun _ => ⟨rfl, rfl, rfl⟩, fun _ => ⟨rfl, rfl⟩⟩
theorem MN_left {τ : St} {k : Nat} {v : Int32} (hk : k < tn τ) (hv : v.toInt ≤ lf τ k) : MN τ (pI τ 15 0 k v) := MN_eq (SM_left τ k v) (fun _ _ => rfl) (by rw [lf_sum_pI hk v]; omega)
theorem FR_left (τ : St) (k : Nat) (v : Int32) (hM : MN τ (pI τ 15 0 k v)) : FR τ (pI τ 15 0 k v) := ⟨⟨fun _ => rfl, fun _ => rfl, fun _ => rfl, rfl, rfl, SM_left τ k v, hM⟩, fun _ => rfl, fun _ => rfl⟩
theorem SM_trade (τ : St) (b s p : Nat) (q x : Int32) : SM τ (trT τ b s p q x) := ⟨fun _ => rfl, fun _ => rfl, rfl, fun _ => rfl, fun _ => rfl, rfl, fun _ => rfl, fun _ => ⟨rfl, rfl, rfl⟩, fun _ => ⟨rfl, rfl⟩⟩
theorem FR_trade (τ : St) (b s p : Nat) (q x : Int32) (hM : MN τ (trT τ b s p q x)) : FR τ (trT τ b s p q x) := ⟨⟨fun _ => rfl, fun _ => rfl, fun _ => rfl, rfl, rfl, SM_trade τ b s p q x, hM⟩, fun _ => rfl, fun _ => rfl⟩
/-- of the one that is checked: hours, the row of the order, and whether it's there -/
def FS (σ σ' : St) : Prop := (∀ m, gI σ' 1 m 0 = gI σ 1 m 0) ∧ (∀ j, gI σ' 19 0 j = gI σ 19 0 j) ∧ gN σ' 4 = gN σ 4
theorem FS_rfl (σ : St) : FS σ σ := ⟨fun _ => rfl, fun _ => rfl, rfl⟩
theorem FS_tr {a b c : St} (h1 : FS a b) (h2 : FS b c) : FS a c := ⟨fun m => (h2.1 m).trans (h1.1 m), fun j => (h2.2.1 j).trans (h1.2.1 j), h2.2.2.trans h1.2.2⟩
theorem FS_scr {σ σ1 : St} (c : scr σ σ1) : FS σ σ1 := ⟨fun _ => scr_gI c .., fun _ => scr_gI c .., scr_gN c _⟩
def FF (σ τ σ' τ' : St) : Prop := FR τ τ' ∧ FS σ σ'
theorem FF_rfl (σ τ : St) : FF σ τ σ τ := ⟨FR_rfl τ, FS_rfl σ⟩
theorem FF_tr {σ τ s1 t1 σ' τ' : St} (h1 : FF σ τ s1 t1) (h2 : FF s1 t1 σ' τ') : FF σ τ σ' τ' := ⟨FR_tr h1.1 h2.1, FS_tr h1.2 h2.2⟩
theorem FF_left (σ τ : St) (k : Nat) (v w : Int32) (hM : MN τ (pI τ 15 0 k w)) : FF σ τ (pI σ 35 k 0 v) (pI τ 15 0 k w) := ⟨FR_left τ k w hM, fun _ => rfl, fun _ => rfl, rfl⟩
theorem FS_tr0 (σ : St) (b s p : Nat) (q x : Int32) : FS σ (trS σ b s p q x) := ⟨fun _ => rfl, fun _ => rfl, rfl⟩
theorem FF_trade (σ τ : St) (b s p : Nat) (q x q' x' : Int32) (hM : MN τ (trT τ b s p q' x')) : FF σ τ (trS σ b s p q x) (trT τ b s p q' x') := ⟨FR_trade τ b s p q' x' hM, FS_tr0 σ b s p q x⟩
