/-! PURE, the calls: an order is placed -/
def plT (τ : St) (m p : Nat) (b l q : Int32) : St := pI (pI (pI (pI (pI (pI τ 11 0 (tn τ) (nI m)) 12 0 (tn τ) (nI p)) 13 0 (tn τ) b) 14 0 (tn τ) l) 15 0 (tn τ) q) 21 0 0 (nI (tn τ + 1))
def pl0 (σ : St) (m p : Nat) (b l q : Int32) : St := pI (pI (pI (pI (pI (pI (newO σ) 30 (gN σ 5) 0 (nI (gN σ 0))) 31 (gN σ 5) 0 (nI m)) 32 (gN σ 5) 0 (nI p)) 33 (gN σ 5) 0 b) 34 (gN σ 5) 0 l) 35 (gN σ 5) 0 q
def plS (σ : St) (m p : Nat) (b l q : Int32) : St := addL12 (pl0 σ m p b l q)
theorem pl0_n (σ : St) (m p : Nat) (b l q : Int32) : gN (pl0 σ m p b l q) 0 = gN σ 0 ∧ gN (pl0 σ m p b l q) 2 = gN σ 2 ∧ gN (pl0 σ m p b l q) 5 = gN σ 5 + 1 ∧ sameN (pl0 σ m p b l q) (newO σ) := ⟨rfl, rfl, rfl, rfl, rfl, rfl, rfl, rfl, rfl, rfl⟩
theorem plS_old (σ : St) (m p : Nat) (b l q : Int32) {f k : Nat} (hf : 30 ≤ f) (hk : k ≠ gN σ 5) : gI (plS σ m p b l q) f k 0 = gI σ f k 0 := by
  unfold plS addL12 pl0 newO
  simp only [gI_pN, gI_pI]
  rw [if_neg (by omega), if_neg (by omega), if_neg (by omega), if_neg (by omega), if_neg (by omega), if_neg (by omega), if_neg (by omega), if_neg (by omega), if_neg (by omega), if_neg (by omega), if_neg (by omega), if_neg (by omega), if_neg (by omega)]
theorem plS_new (σ : St) (m p : Nat) (b l q : Int32) : gI (plS σ m p b l q) 30 (gN σ 5) 0 = nI (gN σ 0) ∧ gI (plS σ m p b l q) 31 (gN σ 5) 0 = nI m ∧ gI (plS σ m p b l q) 32 (gN σ 5) 0 = nI p ∧ gI (plS σ m p b l q) 33 (gN σ 5) 0 = b ∧ gI (plS σ m p b l q) 34 (gN σ 5) 0 = l ∧ gI (plS σ m p b l q) 35 (gN σ 5) 0 = q := by
  unfold plS addL12 pl0 newO
  simp only [gI_pN, gI_pI]
  refine ⟨?_, ?_, ?_, ?_, ?_, ?_⟩ <;> simp
theorem plT_tn {τ : St} (h : BO τ) (m p : Nat) (b l q : Int32) : tn (plT τ m p b l q) = tn τ + 1 := by
  have := h.2.1
  show (gI (plT τ m p b l q) 21 0 0).toNatClampNeg = _
  unfold plT
  rw [gI_pI, if_pos ⟨rfl, rfl, rfl⟩, clamp_nI (by omega)]
theorem plT_old (τ : St) (m p : Nat) (b l q : Int32) {f k : Nat} (hf : f ≠ 21) (hk : k ≠ tn τ) : gI (plT τ m p b l q) f 0 k = gI τ f 0 k := by
  unfold plT
  simp only [gI_pI]
  rw [if_neg (by omega), if_neg (by omega), if_neg (by omega), if_neg (by omega), if_neg (by omega), if_neg (by omega)]
theorem plT_new (τ : St) (m p : Nat) (b l q : Int32) : gI (plT τ m p b l q) 11 0 (tn τ) = nI m ∧ gI (plT τ m p b l q) 12 0 (tn τ) = nI p ∧ gI (plT τ m p b l q) 13 0 (tn τ) = b ∧ gI (plT τ m p b l q) 14 0 (tn τ) = l ∧ gI (plT τ m p b l q) 15 0 (tn τ) = q := by
  unfold plT
  simp only [gI_pI]
  refine ⟨?_, ?_, ?_, ?_, ?_⟩ <;> simp
theorem pl_n (σ : St) (m p : Nat) (b l q : Int32) : gN (plS σ m p b l q) 0 = gN σ 0 + 1 ∧ gN (plS σ m p b l q) 1 = gN σ 1 ∧ gN (plS σ m p b l q) 2 = acap (gN σ 0) (gN σ 2) ∧ gN (plS σ m p b l q) 3 = gN σ 3 ∧ gN (plS σ m p b l q) 5 = gN σ 5 + 1 ∧ gN (plS σ m p b l q) 6 = gN σ 6 := ⟨rfl, rfl, rfl, rfl, rfl, rfl⟩
theorem G_place {B : Int} {σ τ : St} (h : G B σ τ) {m p : Nat} (hm : m < 5) (hp : p < 3) {b l q : Int32} (hb : bz b) (hl : 1 ≤ l.toInt ∧ l.toInt ≤ 9999) (hq : 1 ≤ q.toInt ∧ q.toInt ≤ 100) (hn : tn τ < 100) :
    G (B + 1) (plS σ m p b l q) (plT τ m p b l q) ∧ (1 + amc (gN σ 0) (gN σ 2)) + pot σ ≤ pot (plS σ m p b l q) ∧ (6 + ams (gN σ 0) (gN σ 2)) + pot σ ≤ pot (plS σ m p b l q) := by
  have hO := G_BO h
  obtain ⟨⟨hA, hU, hP, hQ, hIO, hK, hW, hN, b1, b2, b3⟩, hC, hJ, hT⟩ := h
  obtain ⟨n1, n2, n3, n4, n5, n6, n7, n8⟩ := hN
  obtain ⟨c1, c2⟩ := hC
  have h5 : gN σ 5 = tn τ := n1.trans hIO.1
  obtain ⟨g0, g1, g2, g3, g5, g6⟩ := pl_n σ m p b l q
  have hg := gcap_b _ c2
  have htn := plT_tn hO m p b l q
  have eN := hIO.1
  have hlf : ∀ k, lf (plT τ m p b l q) k = if k = tn τ then q.toInt else lf τ k := fun k => by
    unfold lf
    by_cases c : k = tn τ
    · rw [if_pos c, c, (plT_new τ m p b l q).2.2.2.2]
    · rw [if_neg c, plT_old τ m p b l q (by omega) c]
  have hsum : sm (lf (plT τ m p b l q)) (tn τ + 1) = sm (lf τ) (tn τ) + q.toInt := by
    show sm (lf (plT τ m p b l q)) (tn τ) + lf (plT τ m p b l q) (tn τ) = _
    rw [sm_congr (g := lf τ) (fun k hk => by rw [hlf, if_neg (by omega)]), hlf, if_pos rfl]
  have hop : op (plT τ m p b l q) = op τ + 1 := by
    show sm (oc1 (plT τ m p b l q)) (tn (plT τ m p b l q)) = _
    rw [htn]
    show sm (oc1 (plT τ m p b l q)) (tn τ) + oc1 (plT τ m p b l q) (tn τ) = _
    rw [sm_congr (g := oc1 τ) (fun k hk => by unfold oc1; rw [hlf, if_neg (show ¬ k = tn τ by omega)])]
    have e : oc1 (plT τ m p b l q) (tn τ) = 1 := by unfold oc1; rw [hlf, if_pos rfl, if_pos (show 0 < q.toInt by omega)]
    rw [e]
    rfl
  have hIN : IN (plS σ m p b l q) ∧ IC (plS σ m p b l q) ∧ (1 + amc (gN σ 0) (gN σ 2)) + pot σ ≤ pot (plS σ m p b l q) ∧ (6 + ams (gN σ 0) (gN σ 2)) + pot σ ≤ pot (plS σ m p b l q) := by
    unfold IN IC pot
    rw [g0, g1, g2, g3, g5, g6]
    unfold acap amc ams
    by_cases e : gN σ 0 = gN σ 2
    · rw [if_pos e, if_pos e, if_pos e]
      omega
    · rw [if_neg e, if_neg e, if_neg e]
      omega
  refine ⟨⟨⟨hA, hU, hP, hQ, ⟨?_, fun k hk => ?_⟩, hK, hW, hIN.1, ⟨?_, ?_, fun k hk => ?_⟩, b2, ?_⟩, hIN.2.1, ?_, ?_⟩, hIN.2.2⟩
  · rw [g0, htn, eN]
  · rw [htn] at hk
    by_cases c : k = tn τ
    · subst c
      obtain ⟨s0, s1, s2, s3, s4, s5⟩ := plS_new σ m p b l q
      obtain ⟨t1, t2, t3, t4, t5⟩ := plT_new τ m p b l q
      rw [← h5, s0, s1, s2, s3, s4, s5, h5, t1, t2, t3, t4, t5, eN]
      exact ⟨rfl, rfl, rfl, rfl, rfl, rfl⟩
    · have hk5 : k ≠ gN σ 5 := by rw [h5]; exact c
      rw [plS_old σ m p b l q (by omega) hk5, plS_old σ m p b l q (by omega) hk5, plS_old σ m p b l q (by omega) hk5, plS_old σ m p b l q (by omega) hk5, plS_old σ m p b l q (by omega) hk5, plS_old σ m p b l q (by omega) hk5, plT_old τ m p b l q (by omega) c, plT_old τ m p b l q (by omega) c, plT_old τ m p b l q (by omega) c, plT_old τ m p b l q (by omega) c, plT_old τ m p b l q (by omega) c]
      exact hIO.2 k (by omega)
  · rw [htn]
    unfold plT
    rw [gI_pI, if_pos ⟨rfl, rfl, rfl⟩]
  · rw [htn]; omega
  · rw [htn] at hk
    by_cases c : k = tn τ
    · subst c
      obtain ⟨t1, t2, t3, t4, t5⟩ := plT_new τ m p b l q
      rw [t1, t2, t3, t4, hlf, if_pos rfl]
      exact ⟨⟨m, hm, rfl⟩, ⟨p, hp, rfl⟩, hb, hl.1, hl.2, by omega, hq.2⟩
    · rw [plT_old τ m p b l q (by omega) c, plT_old τ m p b l q (by omega) c, plT_old τ m p b l q (by omega) c, plT_old τ m p b l q (by omega) c, hlf, if_neg c]
      exact b1.2.2 k (by omega)
  · unfold BP at b3 ⊢
    rw [htn, hsum]
    have e : sm (fun j => ((ps (plT τ m p b l q) j).natAbs : Int)) 15 = sm (fun j => ((ps τ j).natAbs : Int)) 15 := rfl
    rw [e]
    omega
  · exact hJ
  · refine ⟨by rw [g1, hop]; have := hT.1; omega, ?_⟩
    obtain ⟨k9, h9, h8⟩ := hT.2
    exact ⟨k9, by rw [g1]; exact h9, h8⟩
theorem x_init2 {σ : St} {m p : Nat} {b l q : Int32} (hb : bz b) : fX2_init (newO σ) (gN σ 5) (nI (gN σ 0)) (nI m) (nI p) b l q = some (pl0 σ m p b l q) := by
  unfold fX2_init
  rw [if_gd hb]
  rfl
theorem hbig (t : St) (a1 a2 a3 a4 a5 : Int32) (v : Int32) : (gI (pI t 11 0 v.toNatClampNeg a1) 21 0 0 = gI t 21 0 0) := rfl
def TPl (τ : St) (a1 a2 b l q r : Int32) (τ' : St) : Prop := (gI τ' 23 0 0 = 1 ∧ SX τ τ' ∧ ¬ ((∃ m, m < 5 ∧ a1 = nI m) ∧ (∃ p, p < 3 ∧ a2 = nI p) ∧ (1 ≤ l.toInt ∧ l.toInt ≤ 9999) ∧ 1 ≤ q.toInt ∧ q.toInt ≤ 100)) ∨ (gI τ' 23 0 0 = 2 ∧ SX τ τ') ∨ ∃ m p, m < 5 ∧ p < 3 ∧ a1 = nI m ∧ a2 = nI p ∧ r = nI (tn τ) ∧ tn τ < 100 ∧ gI τ 10 0 m = 0 ∧ gI τ' 23 0 0 = 0 ∧ FR0 (plT (pI τ 23 0 0 0) m p b l q) τ' ∧ PLr (tn τ) p m 0 (plT (pI τ 23 0 0 0) m p b l q) τ'
set_option maxHeartbeats 1000000 in
theorem c_place {n : Nat} (hn : n < 512) {σ τ : St} (h : INV n σ τ) (a1 a2 : Int32) {b : Int32} (hb : bz b) (l q : Int32) : STEPT P12 (TPl τ a1 a2 b l q) n σ (fX5_place σ a1 a2 b l q) (fX6_place τ a1 a2 b l q) := by
  unfold fX5_place fX6_place
  rcases member_c a1 with ⟨m, hm, rfl, e1, e2⟩ | ⟨e1, e2⟩
  · rcases product_c a2 with ⟨p, hp, rfl, e3, e4⟩ | ⟨e3, e4⟩
    · rcases within_c l 1 9999 (L := 1) (H := 9999) (by decide) (by decide) with ⟨hl, e5, e6⟩ | ⟨e5, e6⟩
      · rcases within_c q 1 100 (L := 1) (H := 100) (by decide) (by decide) with ⟨hq, e7, e8⟩ | ⟨e7, e8⟩
        · obtain ⟨f1, f2, f3⟩ := (G_IA h.1) m hm
          obtain ⟨k1, k2, -⟩ := (G_IQ h.1) p hp
          have hO := G_BO h.1
          have h100 := hO.2.1
          have hN := (G_IO h.1).1
          have hIN := G_IN h.1
          rw [e1, e2, xb_r, e3, bd_some, if_neg h10, e4, bd_some, if_neg h10, e6, bd_some, if_neg h10, e8, bd_some, if_neg h10, asks1, bd_some, if_pos h10, xb_r, e5, xb_r, e7, xb_r, kst_d, if_gd (vin_nI hm (by omega)), if_gd (vin_nI hm (by omega)), clamp_nI (show m < 2147483648 by omega), f3]
          rw [show gI (pI τ 23 0 0 0) 10 0 m = gI τ 10 0 m from rfl]
          by_cases z : gI τ 10 0 m = 0
          · rw [if_neg (not_not_intro z), if_neg (not_not_intro z), if_gd (vin_nI hp (by omega)), if_gd (vin_nI hp (by omega)), clamp_nI (show p < 2147483648 by omega), k2]
            rw [show gI (pI τ 23 0 0 0) 16 0 p = gI τ 16 0 p from rfl]
            by_cases zh : gI τ 16 0 p = 0
            · rw [if_neg (not_not_intro zh), if_neg (not_not_intro zh)]
              obtain ⟨t, ht⟩ : ∃ t, t = pI τ 23 0 0 0 := ⟨_, rfl⟩
              have hTn : tn t = tn τ := by rw [ht]; rfl
              have h21 : gI t 21 0 0 = nI (tn t) := by rw [ht]; exact hO.1
              have hG : G ((tn τ : Int) + 30 * n) σ t := by rw [ht]; exact h.1
              rw [← ht, hN]
              by_cases c : tn τ = 100
              · rw [if_pos (show (100 : Int32) ≤ nI (tn τ) by rw [c]; decide), if_neg (show ¬ ¬ gI t 21 0 0 = 100 by rw [h21, hTn, c]; decide), state0, xb_l]
                have hI : INV n σ t := by rw [ht]; exact INV_t h 0
                exact STEPT_of (STEP_no2 hI (Nat.le_refl _) p122 0) (Or.inr (Or.inl ⟨rfl, by rw [ht]; exact SX_2 τ _ _⟩))
              · have hlt : tn τ < 100 := by omega
                have hv : vin (gI t 21 0 0) 100 := by rw [h21, hTn]; exact vin_nI hlt (by omega)
                rw [if_neg (show ¬ (100 : Int32) ≤ nI (tn τ) from nI_ge (a := tn τ) (b := 100) hlt (by omega)), if_pos (show ¬ gI t 21 0 0 = 100 by rw [h21, hTn]; exact fun e => c ((nI_eq (a := tn τ) (b := 100) (by omega) (by omega)).mp e)), state1, xb_r]
                obtain ⟨g1, p1, p2⟩ := G_place hG hm hp hb hl hq (by omega)
                have hm2 : tn (plT t m p b l q) = tn τ + 1 := by rw [plT_tn (G_BO hG), hTn]
                have hop := op_b (plT t m p b l q)
                have h12 : gI (plT t m p b l q) 12 0 (tn τ) = nI p := by rw [← hTn]; exact (plT_new t m p b l q).2.1
                have h11 : gI (plT t m p b l q) 11 0 (tn τ) = nI m := by rw [← hTn]; exact (plT_new t m p b l q).1
                obtain ⟨σ', τ', mc, ms, x1, y1, g2, ff, hpl9, q1, q2⟩ := match_L (B := (tn τ : Int) + 30 * n + 1) (by omega) (i := tn τ) hp hm 1000 1000 0 _ _ g1 (by rw [hm2]; omega) h12 h11 (by omega) (by rw [hm2] at hop; omega) (by omega) (by omega)
                -- the one that is checked
                have hx : fX5_match (plS σ m p b l q) (gN σ 5) = some (σ', mc, ms) := by
                  rw [hIN.1, hN]
                  exact x1
                have hxx : gd (gN σ 0 ≤ gN σ 5) (tk 1 6 (bd (fX2_init (newO σ) (gN σ 5) (nI (tn τ)) (nI m) (nI p) b l q) (fun q148 => gd (sameN q148 (newO σ)) (gd (gN q148 0 < gN q148 5 ∧ gN q148 0 ≤ gN q148 2 ∧ gN q148 2 ≤ 1000000 ∧ gN σ 5 = gN q148 0) (tk (amc (gN q148 0) (gN q148 2)) (ams (gN q148 0) (gN q148 2)) (bt2 (fX5_match (addL12 q148) (gN σ 5)) (fun q158 => some ((.inr (nI (tn τ), q158) : XO (Int32 × St)), 0, 0)))))))) = some (.inr (nI (tn τ), σ'), 1 + (amc (gN σ 0) (gN σ 2) + mc), 6 + (ams (gN σ 0) (gN σ 2) + ms)) := by
                  obtain ⟨i1, i2, i3, i4, i5, i6, i7, i8⟩ := hIN
                  have ls := pl0_n σ m p b l q
                  have hi := x_init2 (σ := σ) (m := m) (p := p) (l := l) (q := q) hb
                  rw [hN] at hi
                  rw [if_gd (show gN σ 0 ≤ gN σ 5 by omega), hi, bd_some, if_gd ls.2.2.2]
                  have hx : fX5_match (addL12 (pl0 σ m p b l q)) (gN σ 5) = some (σ', mc, ms) := hx
                  generalize pl0 σ m p b l q = L at ls hx ⊢
                  obtain ⟨l0, l2, l5, ls⟩ := ls
                  rw [if_gd (show gN L 0 < gN L 5 ∧ gN L 0 ≤ gN L 2 ∧ gN L 2 ≤ 1000000 ∧ gN σ 5 = gN L 0 by omega), hx, bt2_some, tk_some, tk_some, tk_some, l0, l2, Nat.add_zero, Nat.add_zero]
                rw [hxx]
                -- the reference
                have hyy : fX6_matches (plT t m p b l q) (nI (tn τ)) = some τ' := by
                  unfold fX6_matches
                  rw [if_gd (vin_nI hlt (by omega)), clamp_nI (show tn τ < 2147483648 by omega), h12, kst_d]
                  exact y1
                have hpl : pI (pI (pI (pI (pI (pI t 11 0 (gI t 21 0 0).toNatClampNeg (nI m)) 12 0 (gI t 21 0 0).toNatClampNeg (nI p)) 13 0 (gI t 21 0 0).toNatClampNeg b) 14 0 (gI t 21 0 0).toNatClampNeg l) 15 0 (gI t 21 0 0).toNatClampNeg q) 21 0 0 (gI t 21 0 0 + 1) = plT t m p b l q := by
                  unfold plT
                  rw [h21, nI_1, clamp_nI (show tn t < 2147483648 by omega)]
                refine Eq.mpr (congrArg (fun z => STEPT P12 (TPl τ (nI m) (nI p) b l q) n σ _ z) (?_ : _ = some (nI (tn τ), τ'))) ?_
                · refine (if_gd hv).trans ((if_gd hv).trans ((if_gd hv).trans ((if_gd hb).trans ((if_gd hv).trans ((if_gd hv).trans ?_)))))
                  show bd (fX6_matches (pI (pI (pI (pI (pI (pI t 11 0 (gI t 21 0 0).toNatClampNeg (nI m)) 12 0 (gI t 21 0 0).toNatClampNeg (nI p)) 13 0 (gI t 21 0 0).toNatClampNeg b) 14 0 (gI t 21 0 0).toNatClampNeg l) 15 0 (gI t 21 0 0).toNatClampNeg q) 21 0 0 (gI t 21 0 0 + 1)) (gI (pI (pI (pI (pI (pI (pI t 11 0 (gI t 21 0 0).toNatClampNeg (nI m)) 12 0 (gI t 21 0 0).toNatClampNeg (nI p)) 13 0 (gI t 21 0 0).toNatClampNeg b) 14 0 (gI t 21 0 0).toNatClampNeg l) 15 0 (gI t 21 0 0).toNatClampNeg q) 21 0 0 (gI t 21 0 0 + 1)) 21 0 0 - 1)) (fun q18 => some (((gI q18 21 0 0) - 1, q18))) = _
                  have e21 : gI (plT t m p b l q) 21 0 0 = nI (tn τ + 1) := by
                    unfold plT
                    rw [gI_pI, if_pos ⟨rfl, rfl, rfl⟩, hTn]
                  rw [hpl, e21, nI_pred, hyy, bd_some, ff.1.1.2.2.2.2.1, e21, nI_pred]
                · have hG9 : INV (n + 1) σ' τ' := by
                    have ht' : tn τ' = tn τ + 1 := by
                      rw [← hm2]
                      unfold tn
                      rw [ff.1.1.2.2.2.2.1]
                    refine ⟨G_mono g2 (by rw [ht']; omega), fun j hj => ?_, fun j hj => ?_, BS_mono (BS_of (τ := t) (by rw [ht]; exact h.2.2.2) (fun j => ff.1.1.1 j) (fun j => ff.1.1.2.2.1 j)) (by omega)⟩
                    · rw [ff.2.1 j, ff.1.1.2.1 j]
                      show gI σ 1 j 0 = gI t 9 0 j
                      rw [ht]
                      exact h.2.1 j hj
                    · rw [ff.1.1.1 j, ff.1.1.2.1 j]
                      show bz (gI t 10 0 j) ∧ _
                      rw [ht]
                      exact h.2.2.1 j hj
                  have h23 : gI τ' 23 0 0 = 0 := by
                    rw [ff.1.1.2.2.2.1]
                    show gI t 23 0 0 = 0
                    rw [ht]
                    rfl
                  exact ⟨_, _, _, _, _, rfl, rfl, ⟨h23, rfl, hG9, by omega, by omega⟩, Or.inr (Or.inr ⟨m, p, hm, hp, rfl, rfl, rfl, hlt, z, h23, by rw [← ht]; exact ff.1.1, by rw [← ht]; exact hpl9⟩)⟩
            · rw [if_pos zh, if_pos zh, state0, xb_l]
              exact STEPT_of (STEP_no2 (INV_t h 0) (Nat.le_refl _) p122 0) (Or.inr (Or.inl ⟨rfl, SX_2 τ _ _⟩))
          · rw [if_pos z, if_pos z, state0, xb_l]
            exact STEPT_of (STEP_no2 (INV_t h 0) (Nat.le_refl _) p122 0) (Or.inr (Or.inl ⟨rfl, SX_2 τ _ _⟩))
        · rw [e1, e2, xb_r, e3, bd_some, if_neg h10, e4, bd_some, if_neg h10, e6, bd_some, if_neg h10, e8, bd_some, if_pos rfl, asks0, bd_some, if_neg (not_not_intro rfl), xb_r, e5, xb_r, e7, xb_l]
          exact STEPT_of (STEP_no h p121 0) (Or.inl ⟨rfl, SX_1 τ _, fun ⟨_, _, _, hq⟩ => (out_not e8 (by decide) (by decide) hq)⟩)
      · rw [e1, e2, xb_r, e3, bd_some, if_neg h10, e4, bd_some, if_neg h10, e6, bd_some, if_pos rfl, asks0, bd_some, if_neg (not_not_intro rfl), xb_r, e5, xb_l]
        exact STEPT_of (STEP_no h p121 0) (Or.inl ⟨rfl, SX_1 τ _, fun ⟨_, _, hl, _⟩ => (out_not e6 (by decide) (by decide) hl)⟩)
    · rw [e1, e2, xb_r, e3, bd_some, if_neg h10, e4, bd_some, if_pos rfl, asks0, bd_some, if_neg (not_not_intro rfl), xb_l]
      exact STEPT_of (STEP_no h p121 0) (Or.inl ⟨rfl, SX_1 τ _, fun ⟨_, ⟨p, hp, e⟩, _⟩ => product_not e4 hp e⟩)
  · rw [e1, e2, xb_l, bd_some, if_pos rfl, asks0, bd_some, if_neg (not_not_intro rfl)]
    exact STEPT_of (STEP_no h p121 0) (Or.inl ⟨rfl, SX_1 τ _, fun ⟨⟨m, hm, e⟩, _⟩ => member_not e2 hm e⟩)
