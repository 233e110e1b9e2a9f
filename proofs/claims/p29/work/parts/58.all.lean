/-! PURE: all that a house tells; what is refused -/
theorem bt_c {α β : Type} {x : Option (α × Nat × Nat)} {a : α} {m n : Nat} (h : x = some (a, m, n)) (k : α → Option (β × Nat × Nat)) : bt2 x k = tk m n (k a) := by rw [h, bt2_some]
theorem bt_is {α β : Type} {x : Option ((Int32 × α) × Nat × Nat)} {z : Int32} {s : α} {m n : Nat} (h : x = some ((z, s), m, n)) (A B : Int32 × α → Option (β × Nat × Nat)) : bt2 x (fun q => if ¬ q.1 = z then A q else B q) = tk m n (B (z, s)) := by
  rw [h, bt2_some]
  show tk m n (if ¬ z = z then _ else _) = _
  rw [if_neg (not_not_intro rfl)]
theorem mem_out (σ : St) {a : Int32} (h : ¬ (0 ≤ a.toInt ∧ a.toInt ≤ 4)) : fX5_demandMember σ a = some (.inl (1, σ), 1, 6) := by
  unfold fX5_demandMember
  rw [dW_out rfl (L := 0) (H := 4) (by decide) (by decide) h, xb_l]
theorem pro_out (σ : St) {a : Int32} (h : ¬ (0 ≤ a.toInt ∧ a.toInt ≤ 2)) : fX5_demandProduct σ a = some (.inl (1, σ), 1, 6) := by
  unfold fX5_demandProduct
  rw [dW_out rfl (L := 0) (H := 2) (by decide) (by decide) h, xb_l]
theorem kin_out (σ : St) {a : Int32} (h : ¬ (0 ≤ a.toInt ∧ a.toInt ≤ 1)) : fX5_demandKind σ a = some (.inl (1, σ), 1, 6) := by
  unfold fX5_demandKind
  rw [dW_out rfl (L := 0) (H := 1) (by decide) (by decide) h, xb_l]
theorem dIn (σ : St) (a lo hi : Int32) {A L H : Int} (ha : a.toInt = A) (hl : lo.toInt = L) (hh : hi.toInt = H) (h : L ≤ A ∧ A ≤ H) : fX5_demandWithin σ a lo hi = some (.inr σ, 0, 0) := dW_in ha hl hh h
theorem dOut (σ : St) (a lo hi : Int32) {A L H : Int} (ha : a.toInt = A) (hl : lo.toInt = L) (hh : hi.toInt = H) (h : ¬ (L ≤ A ∧ A ≤ H)) : fX5_demandWithin σ a lo hi = some (.inl (1, σ), 1, 6) := dW_out ha hl hh h
theorem m0 (σ : St) : fX5_demandMember σ 0 = some (.inr σ, 0, 0) := mem_in (m := 0) (by omega) σ
theorem p0 (σ : St) : fX5_demandProduct σ 0 = some (.inr σ, 0, 0) := pro_in (m := 0) (by omega) σ
theorem k0 (σ : St) : fX5_demandKind σ 0 = some (.inr σ, 0, 0) := kin_in (m := 0) (by omega) σ
theorem k1 (σ : St) : fX5_demandKind σ 1 = some (.inr σ, 0, 0) := kin_in (m := 1) (by omega) σ
theorem C_0 (σ : St) : fL_call σ 0 (-1) 5 0 = some ((-2000000002, σ), 1, 6) := call_ex (k := 1) (by
  rw [does_tell]
  unfold fX5_tell
  rw [(pro_out σ (by decide)), xb_l]) rfl
theorem C_1 (σ : St) : fL_call σ 0 0 (-1) 0 = some ((-2000000002, σ), 1, 6) := call_ex (k := 1) (by
  rw [does_tell]
  unfold fX5_tell
  rw [p0, xb_r, (dOut σ (-1) (1) (9999) (A := -1) (L := 1) (H := 9999) (by decide) (by decide) (by decide) (by decide)), xb_l]) rfl
theorem C_2 (σ : St) : fL_call σ 1 (-1) 0 0 = some ((-2000000002, σ), 1, 6) := call_ex (k := 1) (by
  rw [does_setMove]
  unfold fX5_setMove
  rw [(dOut σ (-1) (0) (3) (A := -1) (L := 0) (H := 3) (by decide) (by decide) (by decide) (by decide)), xb_l]) rfl
theorem C_3 (σ : St) : fL_call σ 1 0 (-1) 0 = some ((-2000000002, σ), 1, 6) := call_ex (k := 1) (by
  rw [does_setMove]
  unfold fX5_setMove
  rw [(dIn σ 0 0 3 (A := 0) (L := 0) (H := 3) (by decide) (by decide) (by decide) (by decide)), xb_r, (pro_out σ (by decide)), xb_l]) rfl
theorem C_4 (σ : St) : fL_call σ 2 (-1) 5 0 = some ((-2000000002, σ), 1, 6) := call_ex (k := 1) (by
  rw [does_tellKind]
  unfold fX5_tellKind
  rw [(kin_out σ (by decide)), xb_l]) rfl
theorem C_5 (σ : St) : fL_call σ 2 1 10000 0 = some ((-2000000002, σ), 1, 6) := call_ex (k := 1) (by
  rw [does_tellKind]
  unfold fX5_tellKind
  rw [k1, xb_r, (dOut σ (10000) (1) (9999) (A := 10000) (L := 1) (H := 9999) (by decide) (by decide) (by decide) (by decide)), xb_l]) rfl
theorem C_6 (σ : St) : fL_call σ 3 (-1) 0 0 = some ((-2000000002, σ), 1, 6) := call_ex (k := 1) (by
  rw [does_pay]
  unfold fX5_pay
  rw [(mem_out σ (by decide)), xb_l]) rfl
theorem C_7 (σ : St) : fL_call σ 3 0 100001 0 = some ((-2000000002, σ), 1, 6) := call_ex (k := 1) (by
  rw [does_pay]
  unfold fX5_pay
  rw [m0, xb_r, (dOut σ (100001) (-100000) (100000) (A := 100001) (L := -100000) (H := 100000) (by decide) (by decide) (by decide) (by decide)), xb_l]) rfl
theorem C_8 (σ : St) : fL_call σ 4 (-1) 0 0 = some ((-2000000002, σ), 1, 6) := call_ex (k := 1) (by
  rw [does_bring]
  unfold fX5_bring
  rw [(mem_out σ (by decide)), xb_l]) rfl
theorem C_9 (σ : St) : fL_call σ 4 0 (-1) 0 = some ((-2000000002, σ), 1, 6) := call_ex (k := 1) (by
  rw [does_bring]
  unfold fX5_bring
  rw [m0, xb_r, (kin_out σ (by decide)), xb_l]) rfl
theorem C_10 (σ : St) : fL_call σ 5 5 1 0 = some ((-2000000002, σ), 1, 6) := call_ex (k := 1) (by
  rw [does_contribute]
  unfold fX5_contribute
  rw [(mem_out σ (by decide)), xb_l]) rfl
theorem C_11 (σ : St) : fL_call σ 5 0 (-1) 0 = some ((-2000000002, σ), 1, 6) := call_ex (k := 1) (by
  rw [does_contribute]
  unfold fX5_contribute
  rw [m0, xb_r, (dOut σ (-1) (1) (100000) (A := -1) (L := 1) (H := 100000) (by decide) (by decide) (by decide) (by decide)), xb_l]) rfl
theorem C_12 (σ : St) : fL_call σ 6 (-1) 0 12802 = some ((-2000000002, σ), 1, 6) := call_ex (k := 1) (by
  rw [does_place]
  unfold fX5_place
  rw [(mem_out σ (by decide)), xb_l]) rfl
theorem C_13 (σ : St) : fL_call σ 6 0 (-1) 12802 = some ((-2000000002, σ), 1, 6) := call_ex (k := 1) (by
  rw [does_place]
  unfold fX5_place
  rw [m0, xb_r, (pro_out σ (by decide)), xb_l]) rfl
theorem C_14 (σ : St) : fL_call σ 6 0 0 12902 = some ((-2000000002, σ), 1, 6) := call_ex (k := 1) (by
  rw [does_place]
  have e1 : (0 : Int32) >>> (1 &&& 31) = 0 := by decide
  have e2 : (12902 : Int32) >>> (8 &&& 31) = 50 := by decide
  have e3 : ((12902 : Int32) &&& 255) - 1 = 101 := by decide
  rw [e1, e2, e3]
  unfold fX5_place
  rw [m0, xb_r, p0, xb_r, (dIn σ 50 1 9999 (A := 50) (L := 1) (H := 9999) (by decide) (by decide) (by decide) (by decide)), xb_r, (dOut σ (101) (1) (100) (A := 101) (L := 1) (H := 100) (by decide) (by decide) (by decide) (by decide)), xb_l]) rfl
theorem D_0 (σ : St) : fL_call σ 8 (-1) 1 0 = some ((-2000000002, σ), 1, 6) := call_ex (k := 1) (by
  rw [does_halt1]
  unfold fX5_halt
  rw [(pro_out σ (by decide)), xb_l]) rfl
theorem D_1 (σ : St) : fL_call σ 10 3 0 0 = some ((-2000000002, σ), 1, 6) := call_ex (k := 1) (by
  rw [does_best0]
  unfold fX5_best
  rw [(pro_out σ (by decide)), xb_l]) rfl
theorem D_2 (σ : St) : fL_call σ 11 5 0 0 = some ((-2000000002, σ), 1, 6) := call_ex (k := 1) (by
  rw [does_called]
  unfold fX5_called
  rw [(mem_out σ (by decide)), xb_l]) rfl
theorem D_3 (σ : St) : fL_call σ 13 5 0 0 = some ((-2000000002, σ), 1, 6) := call_ex (k := 1) (by
  rw [does_position]
  unfold fX5_position
  rw [(mem_out σ (by decide)), xb_l]) rfl
theorem D_4 (σ : St) : fL_call σ 18 (-1) 0 0 = some ((-2000000002, σ), 1, 6) := call_ex (k := 1) (by
  rw [does_haircut]
  unfold fX5_haircut
  rw [(kin_out σ (by decide)), xb_l]) rfl
theorem D_5 (σ : St) : fL_call σ 20 (-1) 0 0 = some ((-2000000002, σ), 1, 6) := call_ex (k := 1) (by
  rw [does_free]
  unfold fX5_free
  rw [(mem_out σ (by decide)), xb_l]) rfl
section ALL
variable {n : Nat} {σ τ : St} {m p k : Nat}
theorem E_cancel (h : INV n σ τ) {a : Int32} (ha : a = -1 ∨ a = nI (tn τ)) : fL_call σ 7 a 0 0 = some ((-2000000001, σ), 1, 6) := call_ex (k := 3) (by
  rw [does_cancel]
  unfold fX5_cancel
  rw [order_x h ha, xb_l]) rfl
theorem E_left (h : INV n σ τ) : fL_call σ 9 (nI (tn τ)) 0 0 = some ((-2000000001, σ), 1, 6) := call_ex (k := 3) (by rw [does_left]; exact A_leftX h) rfl
/-- what a call of best tells -/
def bV (τ : St) (p : Nat) (b : Int32) : Int32 := if fX6_bestOf τ (nI p) b = some (-1) then -2000000004 else (fX6_bestOf τ (nI p) b).getD 0
theorem E_best0 (h : INV n σ τ) (hp : p < 3) : ∃ c, c ≤ 1 ∧ fL_call σ 10 (nI p) 0 0 = some ((bV τ p 0, σ), c, 6 * c) := by
  rcases A_best h hp 0 with ⟨j, hj, e1, e2⟩ | ⟨e1, e2⟩
  · have h100 := (G_BO h.1).2.1
    have hj1 := hj.1
    have eb : bV τ p 0 = nI j := by
      unfold bV
      rw [e1, if_neg (fun q => nI_ne1 (k := j) (by omega) (Option.some.inj q))]
      rfl
    exact ⟨0, by omega, by rw [eb]; exact call_in (by rw [does_best0]; exact e2)⟩
  · have eb : bV τ p 0 = -2000000004 := by unfold bV; rw [if_pos e1]
    exact ⟨1, by omega, by rw [eb]; exact call_ex (k := 4) (by rw [does_best0]; exact e2) rfl⟩
theorem E_best1 (h : INV n σ τ) (hp : p < 3) : ∃ c, c ≤ 1 ∧ fL_call σ 10 (nI p) 1 0 = some ((bV τ p 1, σ), c, 6 * c) := by
  rcases A_best h hp 1 with ⟨j, hj, e1, e2⟩ | ⟨e1, e2⟩
  · have h100 := (G_BO h.1).2.1
    have hj1 := hj.1
    have eb : bV τ p 1 = nI j := by
      unfold bV
      rw [e1, if_neg (fun q => nI_ne1 (k := j) (by omega) (Option.some.inj q))]
      rfl
    exact ⟨0, by omega, by rw [eb]; exact call_in (by rw [does_best1]; exact e2)⟩
  · have eb : bV τ p 1 = -2000000004 := by unfold bV; rw [if_pos e1]
    exact ⟨1, by omega, by rw [eb]; exact call_ex (k := 4) (by rw [does_best1]; exact e2) rfl⟩
def allW (τ : St) (w : Nat) (h : Int64) : Int64 := ((((((((((((h * 1000003) + tI (gL τ 6 0 w)) * 1000003) + tI (sEq τ w)) * 31) + Int32.toInt64 (gI τ 9 0 w)) * 1000003) + tI (sFree τ w)) * 1000003) + tI (sCol τ w)) * 1000003) + tI (gL τ 8 0 w)) + (if gI τ 10 0 w = 0 then Int32.toInt64 0 else Int32.toInt64 5)
def allX (τ : St) (w : Nat) (h : Int64) : Int64 := (((((allW τ w h * 4099) + Int32.toInt64 (gI τ 4 0 (3 * w + 0))) * 4099) + Int32.toInt64 (gI τ 4 0 (3 * w + 1))) * 4099) + Int32.toInt64 (gI τ 4 0 (3 * w + 2))
theorem S_all (h : INV n σ τ) (hm : m < 5) (f : Nat) (v : Int64) (a : Int32) : ∃ σ', scr σ σ' ∧ fL_all_L19 (f + 1) σ (nI m) v a = fL_all_L19 f σ' (nI (m + 1)) (allX τ m v) a := by
  obtain ⟨s1, ef, sc⟩ := A_free h hm
  have h1 := INV_scr sc h
  refine ⟨s1, sc, ?_⟩
  have q0 : fX5_position s1 (nI m) 0 = some (.inr (gI τ 4 0 (3 * m + 0), s1), 0, 0) := A_pos h1 hm (p := 0) (by omega)
  have q1 : fX5_position s1 (nI m) 1 = some (.inr (gI τ 4 0 (3 * m + 1), s1), 0, 0) := A_pos h1 hm (p := 1) (by omega)
  have q2 : fX5_position s1 (nI m) 2 = some (.inr (gI τ 4 0 (3 * m + 2), s1), 0, 0) := A_pos h1 hm (p := 2) (by omega)
  rw [fL_all_L19.eq_2, if_neg (show ¬ (5 : Int32) ≤ nI m from nI_ge (a := m) (b := 5) hm (by omega)), yb_0 (A_cash h hm), yb_0 (A_eqT h hm), yb_0 (A_called h hm), kst_d, yb_0 ef, yb_0 (A_col h1 hm), yb_0 (A_share h1 hm), yb_0 (A_failed h1 hm)]
  unfold allX allW
  by_cases c : gI τ 10 0 m = 0
  · rw [if_pos c, if_pos c, kst_d, yb_0 q0, yb_0 q1, yb_0 q2, kst_d, kst_d, nI_1]
    rfl
  · rw [if_neg c, if_neg c, kst_d, yb_0 q0, yb_0 q1, yb_0 q2, kst_d, kst_d, nI_1]
    rfl
def allK (τ : St) : Nat → Nat → Int64 → Int64
  | 0, _, v => v
  | d + 1, k, v => allK τ d (k + 1) ((v * 131) + Int32.toInt64 (gI τ 15 0 k))
theorem S_left {β : Type} (K : St → Int32 → Int64 → Int32 → Option (β × Nat × Nat)) (h : INV n σ τ) : ∀ (d k f : Nat) (v : Int64), k + d = tn τ → d < f → fL_all_L167 K f σ (nI k) v (nI (tn τ)) = K σ (nI (tn τ)) (allK τ d k v) (nI (tn τ)) := by
  have h100 := (G_BO h.1).2.1
  intro d
  induction d with
  | zero =>
    intro k f v e hf
    obtain ⟨f, rfl⟩ : ∃ g, f = g + 1 := ⟨f - 1, by omega⟩
    have e : k = tn τ := by omega
    rw [fL_all_L167.eq_2, e, if_pos ((nI_leI (by omega) (by omega)).mpr (Nat.le_refl _))]
    rfl
  | succ d ih =>
    intro k f v e hf
    obtain ⟨f, rfl⟩ : ∃ g, f = g + 1 := ⟨f - 1, by omega⟩
    rw [fL_all_L167.eq_2, if_neg (fun q => by have := (nI_leI (a := tn τ) (b := k) (by omega) (by omega)).mp q; omega), yb_0 (A_left h (show k < tn τ by omega)), kst_d, kst_d, nI_1]
    exact ih (k + 1) f _ (by omega) (by omega)
def md1 (x : Int32) : Int64 := Int32.toInt64 (x - x / 101 * 101)
def allB (τ : St) (p : Nat) (v : Int64) : Int64 := (((v * 103) + md1 (bV τ p 0)) * 103) + md1 (bV τ p 1)
theorem S_best {β : Type} (K : St → Int32 → Int64 → Int32 → Option (β × Nat × Nat)) (h : INV n σ τ) (hp : p < 3) (f : Nat) (v : Int64) (a : Int32) : ∃ c, c ≤ 2 ∧ fL_all_L196 K (f + 1) σ (nI p) v a = tk c (6 * c) (fL_all_L196 K f σ (nI (p + 1)) (allB τ p v) a) := by
  obtain ⟨c1, l1, e1⟩ := E_best0 h hp
  obtain ⟨c2, l2, e2⟩ := E_best1 h hp
  refine ⟨c1 + c2, by omega, ?_⟩
  rw [fL_all_L196.eq_2, if_neg (show ¬ (3 : Int32) ≤ nI p from nI_ge (a := p) (b := 3) hp (by omega)), bt_c e1, bt_c e2, kst_d, kst_d, nI_1]
  show tk c1 (6 * c1) (tk c2 (6 * c2) (fL_all_L196 K f σ (nI (p + 1)) (allB τ p v) a)) = _
  cases fL_all_L196 K f σ (nI (p + 1)) (allB τ p v) a with
  | none => rfl
  | some q =>
    obtain ⟨b, m, n⟩ := q
    show some (b, c1 + (c2 + m), 6 * c1 + (6 * c2 + n)) = some (b, c1 + c2 + m, 6 * (c1 + c2) + n)
    rw [show c1 + (c2 + m) = c1 + c2 + m by omega, show 6 * c1 + (6 * c2 + n) = 6 * (c1 + c2) + n by omega]
def allV (τ : St) : Int64 := (((allB τ 2 (allB τ 1 (allB τ 0 (allK τ (tn τ) 0 (allX τ 4 (allX τ 3 (allX τ 2 (allX τ 1 (allX τ 0 ((Int32.toInt64 (gI τ 22 0 0)) * 7 + (Int32.toInt64 (Int64.toInt32 (gL τ 20 0 0))))))))))))) * 97) + Int32.toInt64 (sHair τ 0)) + Int32.toInt64 (sHair τ 1) * 3
theorem L_all (h : INV n σ τ) : ∃ σ' c, c ≤ 6 ∧ scr σ σ' ∧ fL_all σ (nI (tn τ)) = some ((allV τ, σ'), c, 6 * c) := by
  have h100 := (G_BO h.1).2.1
  obtain ⟨s1, c1, e1⟩ := S_all h (m := 0) (by omega) 999 ((Int32.toInt64 (gI τ 22 0 0)) * 7 + (Int32.toInt64 (Int64.toInt32 (gL τ 20 0 0)))) (nI (tn τ))
  have h1 := INV_scr c1 h
  obtain ⟨s2, c2, e2⟩ := S_all h1 (m := 1) (by omega) 998 (allX τ 0 ((Int32.toInt64 (gI τ 22 0 0)) * 7 + (Int32.toInt64 (Int64.toInt32 (gL τ 20 0 0))))) (nI (tn τ))
  have h2 := INV_scr c2 h1
  generalize e0 : allX τ 0 ((Int32.toInt64 (gI τ 22 0 0)) * 7 + (Int32.toInt64 (Int64.toInt32 (gL τ 20 0 0)))) = v0 at e1 e2
  obtain ⟨s3, c3, e3⟩ := S_all h2 (m := 2) (by omega) 997 (allX τ 1 v0) (nI (tn τ))
  have h3 := INV_scr c3 h2
  obtain ⟨s4, c4, e4⟩ := S_all h3 (m := 3) (by omega) 996 (allX τ 2 (allX τ 1 v0)) (nI (tn τ))
  have h4 := INV_scr c4 h3
  obtain ⟨s5, c5, e5⟩ := S_all h4 (m := 4) (by omega) 995 (allX τ 3 (allX τ 2 (allX τ 1 v0))) (nI (tn τ))
  have h5 := INV_scr c5 h4
  have hsc := scr_tr (scr_tr (scr_tr c1 c2) (scr_tr c3 c4)) c5
  generalize ev : allX τ 4 (allX τ 3 (allX τ 2 (allX τ 1 v0))) = v5 at e5
  have eA : fL_all σ (nI (tn τ)) = fL_all_L19 995 s5 (nI 5) v5 (nI (tn τ)) := by
    unfold fL_all
    rw [A_trades h, bd_some, A_unpaid h, bd_some, kst_d]
    exact e1.trans (e2.trans (e3.trans (e4.trans e5)))
  have eB : fL_all_L19 995 s5 (nI 5) v5 (nI (tn τ)) = fL_all_L167 (fun s15 y17 y18 y19 => fL_all_L196 (fun s39 y41 y42 y43 => yb (fX5_haircut s39 0) (fun q44 => yb (fX5_haircut q44.2 1) (fun q51 => some ((((y42 * 97) + (Int32.toInt64 q44.1)) + ((Int32.toInt64 q51.1) * 3), q51.2), 0, 0)))) 1000 s15 0 y18 y19) 1000 s5 0 v5 (nI (tn τ)) := by
    show fL_all_L19 (994 + 1) _ _ _ _ = _
    rw [fL_all_L19.eq_2, if_pos nI5]
  have eC := S_left (fun s15 y17 y18 y19 => fL_all_L196 (fun s39 y41 y42 y43 => yb (fX5_haircut s39 0) (fun q44 => yb (fX5_haircut q44.2 1) (fun q51 => some ((((y42 * 97) + (Int32.toInt64 q44.1)) + ((Int32.toInt64 q51.1) * 3), q51.2), 0, 0)))) 1000 s15 0 y18 y19) h5 (tn τ) 0 1000 v5 (by omega) (by omega)
  generalize ek : allK τ (tn τ) 0 v5 = v6 at eC
  generalize eK : (fun (s39 : St) (y41 : Int32) (y42 : Int64) (y43 : Int32) => yb (fX5_haircut s39 0) (fun q44 => yb (fX5_haircut q44.2 1) (fun q51 => some ((((y42 * 97) + (Int32.toInt64 q44.1)) + ((Int32.toInt64 q51.1) * 3), q51.2), 0, 0)))) = K at eB eC
  obtain ⟨d1, l1, f1⟩ := S_best K h5 (p := 0) (by omega) 999 v6 (nI (tn τ))
  obtain ⟨d2, l2, f2⟩ := S_best K h5 (p := 1) (by omega) 998 (allB τ 0 v6) (nI (tn τ))
  obtain ⟨d3, l3, f3⟩ := S_best K h5 (p := 2) (by omega) 997 (allB τ 1 (allB τ 0 v6)) (nI (tn τ))
  have a0 : fX5_haircut s5 0 = some (.inr (sHair τ 0, s5), 0, 0) := A_hair h5 (m := 0) (by omega)
  have a1 : fX5_haircut s5 1 = some (.inr (sHair τ 1, s5), 0, 0) := A_hair h5 (m := 1) (by omega)
  have eE : fL_all_L196 K 997 s5 (nI 3) (allB τ 2 (allB τ 1 (allB τ 0 v6))) (nI (tn τ)) = some ((((allB τ 2 (allB τ 1 (allB τ 0 v6)) * 97) + Int32.toInt64 (sHair τ 0)) + Int32.toInt64 (sHair τ 1) * 3, s5), 0, 0) := by
    show fL_all_L196 K (996 + 1) _ _ _ _ = _
    rw [fL_all_L196.eq_2, if_pos (show (3 : Int32) ≤ nI 3 by decide), ← eK]
    show yb (fX5_haircut s5 0) _ = _
    rw [yb_0 a0, yb_0 a1]
  have eV : ((allB τ 2 (allB τ 1 (allB τ 0 v6)) * 97) + Int32.toInt64 (sHair τ 0)) + Int32.toInt64 (sHair τ 1) * 3 = allV τ := by
    rw [← ek, ← ev, ← e0]
    rfl
  rw [eV] at eE
  have eF : fL_all σ (nI (tn τ)) = tk d1 (6 * d1) (tk d2 (6 * d2) (tk d3 (6 * d3) (some ((allV τ, s5), 0, 0)))) := by
    rw [eA, eB]
    refine eC.trans ?_
    show fL_all_L196 K (999 + 1) s5 (nI 0) v6 (nI (tn τ)) = _
    rw [f1]
    show tk d1 (6 * d1) (fL_all_L196 K (998 + 1) s5 (nI 1) (allB τ 0 v6) (nI (tn τ))) = _
    rw [f2]
    show tk d1 (6 * d1) (tk d2 (6 * d2) (fL_all_L196 K (997 + 1) s5 (nI 2) (allB τ 1 (allB τ 0 v6)) (nI (tn τ)))) = _
    rw [f3, eE]
  refine ⟨s5, d1 + (d2 + (d3 + 0)), by omega, hsc, ?_⟩
  rw [eF, tk_some, tk_some, tk_some, show 6 * d1 + (6 * d2 + (6 * d3 + 0)) = 6 * (d1 + (d2 + (d3 + 0))) by omega]
theorem allV_SX {τ' : St} (h : INV n σ τ) (hx : SX τ τ') : allV τ' = allV τ := by
  obtain ⟨v, rfl⟩ := hx
  obtain ⟨s1, c1, -, -, e1⟩ := L_all h
  obtain ⟨s2, c2, -, -, e2⟩ := L_all (INV_t h v)
  have e2 : fL_all σ (nI (tn τ)) = some ((allV (pI τ 23 0 0 v), s2), c2, 6 * c2) := e2
  have e3 := Option.some.inj (e2.symm.trans e1)
  exact congrArg (fun z => z.1.1) e3
def tkn {β : Type} : Nat → Option (β × Nat × Nat) → Option (β × Nat × Nat)
  | 0, x => x
  | k + 1, x => tk 1 6 (tkn k x)
theorem tkn_some {β : Type} (b : β) (m n : Nat) : ∀ k, tkn k (some (b, m, n)) = some (b, k + m, 6 * k + n)
  | 0 => by rw [Nat.zero_add, Nat.mul_zero, Nat.zero_add]; rfl
  | k + 1 => by
    show tk 1 6 (tkn k (some (b, m, n))) = _
    rw [tkn_some b m n k, tk_some, show 1 + (k + m) = k + 1 + m by omega, show 6 + (6 * k + n) = 6 * (k + 1) + n by omega]
theorem L_refused (h : INV n σ τ) : ∃ σ' c, c ≤ 36 ∧ scr σ σ' ∧ fL_refused σ (nI (tn τ)) = some ((1, σ'), c, 6 * c) := by
  obtain ⟨s1, c1, l1, sc1, e1⟩ := L_all h
  have h1 := INV_scr sc1 h
  obtain ⟨s2, c2, l2, sc2, e2⟩ := L_all h1
  refine ⟨s2, c1 + 24 + c2, by omega, scr_tr sc1 sc2, ?_⟩
  unfold fL_refused
  rw [bt_c e1, bt_is (C_0 s1), bt_is (C_1 s1), bt_is (C_2 s1), bt_is (C_3 s1), bt_is (C_4 s1), bt_is (C_5 s1), bt_is (C_6 s1), bt_is (C_7 s1), bt_is (C_8 s1), bt_is (C_9 s1), bt_is (C_10 s1), bt_is (C_11 s1), bt_is (C_12 s1), bt_is (C_13 s1), bt_is (C_14 s1), bt_is (E_cancel h1 (Or.inr rfl)), bt_is (E_cancel h1 (Or.inl rfl)), bt_is (D_0 s1), bt_is (E_left h1), bt_is (D_1 s1), bt_is (D_2 s1), bt_is (D_3 s1), bt_is (D_4 s1), bt_is (D_5 s1), bt_c e2, if_neg (not_not_intro rfl)]
  show tk c1 (6 * c1) (tkn 24 (tk c2 (6 * c2) (some ((1, s2), 0, 0)))) = _
  rw [tk_some, tkn_some, tk_some, show c1 + (24 + (c2 + 0)) = c1 + 24 + c2 by omega, show 6 * c1 + (6 * 24 + (6 * c2 + 0)) = 6 * (c1 + 24 + c2) by omega]
end ALL
