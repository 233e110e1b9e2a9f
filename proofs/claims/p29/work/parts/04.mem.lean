/-! THE WORLDS: what each cell holds, by its family and place (laid by wip/gen/mem.py) -/
abbrev TYs (dA : Nat → ClassId) : List (ClassId × FieldType) := [(dA 0, .int), (dA 1, .long), (dA 2, .int), (dA 3, .object RX0), (dA 4, .object RX3), (dA 5, .object RX1), (dA 6, .object "java/lang/Object")]
def cvC (σ : St) (f i : Nat) : Prop := match f with
  | 0 => i = 0
  | 1 => i = 0
  | 2 => i < 5
  | 3 => i < 5
  | 4 => i < 5
  | 5 => i < 5
  | 6 => i = 0
  | 7 => i < 3
  | 8 => i < 3
  | 9 => i = 0
  | 10 => i < 2
  | 11 => i < 2
  | 12 => i = 0
  | 13 => i = 0 ∧ 0 < gN σ 2
  | 14 => i = 0
  | 15 => i = 0 ∧ 0 < gN σ 3
  | 16 => i = 0
  | 17 => i < gN σ 5
  | 18 => i < gN σ 6
  | 19 => i = 0 ∧ gN σ 4 = 1
  | _ => False
def ctC (dA : Nat → ClassId) (ad : Nat → Nat → Nat) (σ : St) (f i : Nat) : va_E := match f with
  | 0 => .inr (6, [.ref (ad 1 0), .ref (ad 6 0), .ref (ad 9 0), .ref (ad 12 0), .ref (ad 14 0), .ref (ad 16 0), .int (gI σ 20 i 0), .long (gL σ 20 i 0)])
  | 1 => .inl (dA 3, 5, .inr (.inr (.inr (.inr (fun j => some (ad 2 j))))))
  | 2 => .inr (1, [.long (gL σ 0 i 0), .long (gL σ 1 i 0), .long (gL σ 2 i 0), .int (gI σ 0 i 0), .int (gI σ 1 i 0), .ref (ad 3 i), .ref (ad 4 i), .ref (ad 5 i)])
  | 3 => .inl (dA 0, 2, .inl (fun j => gI σ 3 i j))
  | 4 => .inl (dA 0, 3, .inl (fun j => gI σ 4 i j))
  | 5 => .inl (dA 1, 3, .inr (.inl (fun j => gL σ 5 i j)))
  | 6 => .inl (dA 4, 3, .inr (.inr (.inr (.inr (fun j => some (ad 7 j))))))
  | 7 => .inr (4, [.int (gI σ 2 i 0), .int (gI σ 5 i 0), .ref (ad 8 i)])
  | 8 => .inl (dA 0, 4, .inl (fun j => gI σ 8 i j))
  | 9 => .inl (dA 5, 2, .inr (.inr (.inr (.inr (fun j => some (ad 10 j))))))
  | 10 => .inr (2, [.ref (ad 11 i), .int (gI σ 6 i 0)])
  | 11 => .inl (dA 0, 4, .inl (fun j => gI σ 11 i j))
  | 12 => .inr (0, [.int (gI σ 22 i 0), .ref (ad 13 0), .int (nI (gN σ 0))])
  | 13 => .inl (dA 6, gN σ 2, .inr (.inr (.inr (.inr (fun j => if j < gN σ 0 then some (ad 17 j) else none)))))
  | 14 => .inr (0, [.int (gI σ 23 i 0), .ref (ad 15 0), .int (nI (gN σ 1))])
  | 15 => .inl (dA 6, gN σ 3, .inr (.inr (.inr (.inr (fun j => if j < gN σ 1 then some (ad 18 j) else none)))))
  | 16 => .inl (dA 1, 4, .inr (.inl (fun j => gL σ 16 i j)))
  | 17 => .inr (3, [.int (gI σ 30 i 0), .int (gI σ 31 i 0), .int (gI σ 32 i 0), .int (gI σ 33 i 0), .int (gI σ 34 i 0), .int (gI σ 35 i 0)])
  | 18 => .inr (5, [.int (gI σ 40 i 0), .int (gI σ 41 i 0), .int (gI σ 42 i 0), .int (gI σ 43 i 0), .int (gI σ 44 i 0)])
  | 19 => .inl (dA 0, 3, .inl (fun j => gI σ 19 i j))
  | _ => .inr (0, [])
abbrev HC (D : va_G) (dA : Nat → ClassId) (A : Nat → Prop) (ad : Nat → Nat → Nat) (σ : St) (H : Heap) : Prop := WW D vwCl A ad (cvC σ) (ctC dA ad σ) H
def cvA (σ : St) (f i : Nat) : Prop := match f with
  | 0 => i = 0
  | 1 => i = 0 ∧ 0 < gN σ 1
  | _ => False
def ctA (dA : Nat → ClassId) (ad : Nat → Nat → Nat) (σ : St) (f i : Nat) : va_E := match f with
  | 0 => .inr (0, [.int (gI σ 0 i 0), .ref (ad 1 0), .int (nI (gN σ 0))])
  | 1 => .inl (dA 6, gN σ 1, .inr (.inr (.inr (.inr (fun j => if j < gN σ 0 then some (ad 2 j) else none)))))
  | _ => .inr (0, [])
abbrev HA (D : va_G) (dA : Nat → ClassId) (A : Nat → Prop) (ad : Nat → Nat → Nat) (σ : St) (H : Heap) : Prop := WW D vwCl A ad (cvA σ) (ctA dA ad σ) H
section MEMW
variable {D : va_G} {dA : Nat → ClassId} {A : Nat → Prop} {ad : Nat → Nat → Nat} {σ : St} {H : Heap}
theorem ctC_this_tradeCount (i : Nat) (v : Int32) : ∀ a b, ctC dA ad (pI σ 20 i 0 v) a b = if a = 0 ∧ b = i then .inr (6, ([.ref (ad 1 0), .ref (ad 6 0), .ref (ad 9 0), .ref (ad 12 0), .ref (ad 14 0), .ref (ad 16 0), .int (gI σ 20 i 0), .long (gL σ 20 i 0)]).set 6 (.int v)) else ctC dA ad σ a b := by
  intro a b
  by_cases h : a = 0 ∧ b = i
  · obtain ⟨rfl, rfl⟩ := h
    rw [if_pos ⟨rfl, rfl⟩]
    simp [ctC, gI_pI, gL_pL, gI_pL, gL_pI, gN_pI, gN_pL]
  · rw [if_neg h]
    unfold ctC
    split <;> first | rfl | (have hb : ¬ b = i := (fun q => h ⟨rfl, q⟩)
                             simp [gI_pI, gL_pL, gI_pL, gL_pI, gN_pI, gN_pL, hb])
theorem HC_this_tradeCount (i : Nat) (v : Int32) (h : WW D vwCl A ad (cvC σ) (fun a b => if a = 0 ∧ b = i then .inr (6, ([.ref (ad 1 0), .ref (ad 6 0), .ref (ad 9 0), .ref (ad 12 0), .ref (ad 14 0), .ref (ad 16 0), .int (gI σ 20 i 0), .long (gL σ 20 i 0)]).set 6 (.int v)) else ctC dA ad σ a b) H) : HC D dA A ad (pI σ 20 i 0 v) H :=
  WW_congr h (fun _ _ q => q) (fun a b _ => ctC_this_tradeCount i v a b)
theorem ctC_this_unpaidLoss (i : Nat) (v : Int64) : ∀ a b, ctC dA ad (pL σ 20 i 0 v) a b = if a = 0 ∧ b = i then .inr (6, ([.ref (ad 1 0), .ref (ad 6 0), .ref (ad 9 0), .ref (ad 12 0), .ref (ad 14 0), .ref (ad 16 0), .int (gI σ 20 i 0), .long (gL σ 20 i 0)]).set 7 (.long v)) else ctC dA ad σ a b := by
  intro a b
  by_cases h : a = 0 ∧ b = i
  · obtain ⟨rfl, rfl⟩ := h
    rw [if_pos ⟨rfl, rfl⟩]
    simp [ctC, gI_pI, gL_pL, gI_pL, gL_pI, gN_pI, gN_pL]
  · rw [if_neg h]
    unfold ctC
    split <;> first | rfl | (have hb : ¬ b = i := (fun q => h ⟨rfl, q⟩)
                             simp [gI_pI, gL_pL, gI_pL, gL_pI, gN_pI, gN_pL, hb])
theorem HC_this_unpaidLoss (i : Nat) (v : Int64) (h : WW D vwCl A ad (cvC σ) (fun a b => if a = 0 ∧ b = i then .inr (6, ([.ref (ad 1 0), .ref (ad 6 0), .ref (ad 9 0), .ref (ad 12 0), .ref (ad 14 0), .ref (ad 16 0), .int (gI σ 20 i 0), .long (gL σ 20 i 0)]).set 7 (.long v)) else ctC dA ad σ a b) H) : HC D dA A ad (pL σ 20 i 0 v) H :=
  WW_congr h (fun _ _ q => q) (fun a b _ => ctC_this_unpaidLoss i v a b)
theorem ctC_Account_cash (i : Nat) (v : Int64) : ∀ a b, ctC dA ad (pL σ 0 i 0 v) a b = if a = 2 ∧ b = i then .inr (1, ([.long (gL σ 0 i 0), .long (gL σ 1 i 0), .long (gL σ 2 i 0), .int (gI σ 0 i 0), .int (gI σ 1 i 0), .ref (ad 3 i), .ref (ad 4 i), .ref (ad 5 i)]).set 0 (.long v)) else ctC dA ad σ a b := by
  intro a b
  by_cases h : a = 2 ∧ b = i
  · obtain ⟨rfl, rfl⟩ := h
    rw [if_pos ⟨rfl, rfl⟩]
    simp [ctC, gI_pI, gL_pL, gI_pL, gL_pI, gN_pI, gN_pL]
  · rw [if_neg h]
    unfold ctC
    split <;> first | rfl | (have hb : ¬ b = i := (fun q => h ⟨rfl, q⟩)
                             simp [gI_pI, gL_pL, gI_pL, gL_pI, gN_pI, gN_pL, hb])
theorem HC_Account_cash (i : Nat) (v : Int64) (h : WW D vwCl A ad (cvC σ) (fun a b => if a = 2 ∧ b = i then .inr (1, ([.long (gL σ 0 i 0), .long (gL σ 1 i 0), .long (gL σ 2 i 0), .int (gI σ 0 i 0), .int (gI σ 1 i 0), .ref (ad 3 i), .ref (ad 4 i), .ref (ad 5 i)]).set 0 (.long v)) else ctC dA ad σ a b) H) : HC D dA A ad (pL σ 0 i 0 v) H :=
  WW_congr h (fun _ _ q => q) (fun a b _ => ctC_Account_cash i v a b)
theorem ctC_Account_share (i : Nat) (v : Int64) : ∀ a b, ctC dA ad (pL σ 1 i 0 v) a b = if a = 2 ∧ b = i then .inr (1, ([.long (gL σ 0 i 0), .long (gL σ 1 i 0), .long (gL σ 2 i 0), .int (gI σ 0 i 0), .int (gI σ 1 i 0), .ref (ad 3 i), .ref (ad 4 i), .ref (ad 5 i)]).set 1 (.long v)) else ctC dA ad σ a b := by
  intro a b
  by_cases h : a = 2 ∧ b = i
  · obtain ⟨rfl, rfl⟩ := h
    rw [if_pos ⟨rfl, rfl⟩]
    simp [ctC, gI_pI, gL_pL, gI_pL, gL_pI, gN_pI, gN_pL]
  · rw [if_neg h]
    unfold ctC
    split <;> first | rfl | (have hb : ¬ b = i := (fun q => h ⟨rfl, q⟩)
                             simp [gI_pI, gL_pL, gI_pL, gL_pI, gN_pI, gN_pL, hb])
theorem HC_Account_share (i : Nat) (v : Int64) (h : WW D vwCl A ad (cvC σ) (fun a b => if a = 2 ∧ b = i then .inr (1, ([.long (gL σ 0 i 0), .long (gL σ 1 i 0), .long (gL σ 2 i 0), .int (gI σ 0 i 0), .int (gI σ 1 i 0), .ref (ad 3 i), .ref (ad 4 i), .ref (ad 5 i)]).set 1 (.long v)) else ctC dA ad σ a b) H) : HC D dA A ad (pL σ 1 i 0 v) H :=
  WW_congr h (fun _ _ q => q) (fun a b _ => ctC_Account_share i v a b)
theorem ctC_Account_outside (i : Nat) (v : Int64) : ∀ a b, ctC dA ad (pL σ 2 i 0 v) a b = if a = 2 ∧ b = i then .inr (1, ([.long (gL σ 0 i 0), .long (gL σ 1 i 0), .long (gL σ 2 i 0), .int (gI σ 0 i 0), .int (gI σ 1 i 0), .ref (ad 3 i), .ref (ad 4 i), .ref (ad 5 i)]).set 2 (.long v)) else ctC dA ad σ a b := by
  intro a b
  by_cases h : a = 2 ∧ b = i
  · obtain ⟨rfl, rfl⟩ := h
    rw [if_pos ⟨rfl, rfl⟩]
    simp [ctC, gI_pI, gL_pL, gI_pL, gL_pI, gN_pI, gN_pL]
  · rw [if_neg h]
    unfold ctC
    split <;> first | rfl | (have hb : ¬ b = i := (fun q => h ⟨rfl, q⟩)
                             simp [gI_pI, gL_pL, gI_pL, gL_pI, gN_pI, gN_pL, hb])
theorem HC_Account_outside (i : Nat) (v : Int64) (h : WW D vwCl A ad (cvC σ) (fun a b => if a = 2 ∧ b = i then .inr (1, ([.long (gL σ 0 i 0), .long (gL σ 1 i 0), .long (gL σ 2 i 0), .int (gI σ 0 i 0), .int (gI σ 1 i 0), .ref (ad 3 i), .ref (ad 4 i), .ref (ad 5 i)]).set 2 (.long v)) else ctC dA ad σ a b) H) : HC D dA A ad (pL σ 2 i 0 v) H :=
  WW_congr h (fun _ _ q => q) (fun a b _ => ctC_Account_outside i v a b)
theorem ctC_Account_failed (i : Nat) (v : Int32) : ∀ a b, ctC dA ad (pI σ 0 i 0 v) a b = if a = 2 ∧ b = i then .inr (1, ([.long (gL σ 0 i 0), .long (gL σ 1 i 0), .long (gL σ 2 i 0), .int (gI σ 0 i 0), .int (gI σ 1 i 0), .ref (ad 3 i), .ref (ad 4 i), .ref (ad 5 i)]).set 3 (.int v)) else ctC dA ad σ a b := by
  intro a b
  by_cases h : a = 2 ∧ b = i
  · obtain ⟨rfl, rfl⟩ := h
    rw [if_pos ⟨rfl, rfl⟩]
    simp [ctC, gI_pI, gL_pL, gI_pL, gL_pI, gN_pI, gN_pL]
  · rw [if_neg h]
    unfold ctC
    split <;> first | rfl | (have hb : ¬ b = i := (fun q => h ⟨rfl, q⟩)
                             simp [gI_pI, gL_pL, gI_pL, gL_pI, gN_pI, gN_pL, hb])
theorem HC_Account_failed (i : Nat) (v : Int32) (h : WW D vwCl A ad (cvC σ) (fun a b => if a = 2 ∧ b = i then .inr (1, ([.long (gL σ 0 i 0), .long (gL σ 1 i 0), .long (gL σ 2 i 0), .int (gI σ 0 i 0), .int (gI σ 1 i 0), .ref (ad 3 i), .ref (ad 4 i), .ref (ad 5 i)]).set 3 (.int v)) else ctC dA ad σ a b) H) : HC D dA A ad (pI σ 0 i 0 v) H :=
  WW_congr h (fun _ _ q => q) (fun a b _ => ctC_Account_failed i v a b)
theorem ctC_Account_hoursCalled (i : Nat) (v : Int32) : ∀ a b, ctC dA ad (pI σ 1 i 0 v) a b = if a = 2 ∧ b = i then .inr (1, ([.long (gL σ 0 i 0), .long (gL σ 1 i 0), .long (gL σ 2 i 0), .int (gI σ 0 i 0), .int (gI σ 1 i 0), .ref (ad 3 i), .ref (ad 4 i), .ref (ad 5 i)]).set 4 (.int v)) else ctC dA ad σ a b := by
  intro a b
  by_cases h : a = 2 ∧ b = i
  · obtain ⟨rfl, rfl⟩ := h
    rw [if_pos ⟨rfl, rfl⟩]
    simp [ctC, gI_pI, gL_pL, gI_pL, gL_pI, gN_pI, gN_pL]
  · rw [if_neg h]
    unfold ctC
    split <;> first | rfl | (have hb : ¬ b = i := (fun q => h ⟨rfl, q⟩)
                             simp [gI_pI, gL_pL, gI_pL, gL_pI, gN_pI, gN_pL, hb])
theorem HC_Account_hoursCalled (i : Nat) (v : Int32) (h : WW D vwCl A ad (cvC σ) (fun a b => if a = 2 ∧ b = i then .inr (1, ([.long (gL σ 0 i 0), .long (gL σ 1 i 0), .long (gL σ 2 i 0), .int (gI σ 0 i 0), .int (gI σ 1 i 0), .ref (ad 3 i), .ref (ad 4 i), .ref (ad 5 i)]).set 4 (.int v)) else ctC dA ad σ a b) H) : HC D dA A ad (pI σ 1 i 0 v) H :=
  WW_congr h (fun _ _ q => q) (fun a b _ => ctC_Account_hoursCalled i v a b)
theorem ctC_row3 (i k : Nat) (v : Int32) : ∀ a b, ctC dA ad (pI σ 3 i k v) a b = if a = 3 ∧ b = i then .inl (dA 0, 2, .inl (upd (fun j => gI σ 3 i j) k v)) else ctC dA ad σ a b := by
  intro a b
  by_cases h : a = 3 ∧ b = i
  · obtain ⟨rfl, rfl⟩ := h
    rw [if_pos ⟨rfl, rfl⟩]
    simp only [ctC]; congr 4; funext j; simp [upd, gI_pI]
  · rw [if_neg h]
    unfold ctC
    split <;> first | rfl | (have hb : ¬ b = i := (fun q => h ⟨rfl, q⟩)
                             simp [gI_pI, gL_pL, gI_pL, gL_pI, gN_pI, gN_pL, hb])
theorem HC_row3 (i k : Nat) (v : Int32) (h : WW D vwCl A ad (cvC σ) (fun a b => if a = 3 ∧ b = i then .inl (dA 0, 2, .inl (upd (fun j => gI σ 3 i j) k v)) else ctC dA ad σ a b) H) : HC D dA A ad (pI σ 3 i k v) H :=
  WW_congr h (fun _ _ q => q) (fun a b _ => ctC_row3 i k v a b)
theorem ctC_row4 (i k : Nat) (v : Int32) : ∀ a b, ctC dA ad (pI σ 4 i k v) a b = if a = 4 ∧ b = i then .inl (dA 0, 3, .inl (upd (fun j => gI σ 4 i j) k v)) else ctC dA ad σ a b := by
  intro a b
  by_cases h : a = 4 ∧ b = i
  · obtain ⟨rfl, rfl⟩ := h
    rw [if_pos ⟨rfl, rfl⟩]
    simp only [ctC]; congr 4; funext j; simp [upd, gI_pI]
  · rw [if_neg h]
    unfold ctC
    split <;> first | rfl | (have hb : ¬ b = i := (fun q => h ⟨rfl, q⟩)
                             simp [gI_pI, gL_pL, gI_pL, gL_pI, gN_pI, gN_pL, hb])
theorem HC_row4 (i k : Nat) (v : Int32) (h : WW D vwCl A ad (cvC σ) (fun a b => if a = 4 ∧ b = i then .inl (dA 0, 3, .inl (upd (fun j => gI σ 4 i j) k v)) else ctC dA ad σ a b) H) : HC D dA A ad (pI σ 4 i k v) H :=
  WW_congr h (fun _ _ q => q) (fun a b _ => ctC_row4 i k v a b)
theorem ctC_row5 (i k : Nat) (v : Int64) : ∀ a b, ctC dA ad (pL σ 5 i k v) a b = if a = 5 ∧ b = i then .inl (dA 1, 3, .inr (.inl (vp_updL (fun j => gL σ 5 i j) k v))) else ctC dA ad σ a b := by
  intro a b
  by_cases h : a = 5 ∧ b = i
  · obtain ⟨rfl, rfl⟩ := h
    rw [if_pos ⟨rfl, rfl⟩]
    simp only [ctC]; congr 5; funext j; simp [vp_updL, gL_pL]
  · rw [if_neg h]
    unfold ctC
    split <;> first | rfl | (have hb : ¬ b = i := (fun q => h ⟨rfl, q⟩)
                             simp [gI_pI, gL_pL, gI_pL, gL_pI, gN_pI, gN_pL, hb])
theorem HC_row5 (i k : Nat) (v : Int64) (h : WW D vwCl A ad (cvC σ) (fun a b => if a = 5 ∧ b = i then .inl (dA 1, 3, .inr (.inl (vp_updL (fun j => gL σ 5 i j) k v))) else ctC dA ad σ a b) H) : HC D dA A ad (pL σ 5 i k v) H :=
  WW_congr h (fun _ _ q => q) (fun a b _ => ctC_row5 i k v a b)
theorem ctC_Product_price (i : Nat) (v : Int32) : ∀ a b, ctC dA ad (pI σ 2 i 0 v) a b = if a = 7 ∧ b = i then .inr (4, ([.int (gI σ 2 i 0), .int (gI σ 5 i 0), .ref (ad 8 i)]).set 0 (.int v)) else ctC dA ad σ a b := by
  intro a b
  by_cases h : a = 7 ∧ b = i
  · obtain ⟨rfl, rfl⟩ := h
    rw [if_pos ⟨rfl, rfl⟩]
    simp [ctC, gI_pI, gL_pL, gI_pL, gL_pI, gN_pI, gN_pL]
  · rw [if_neg h]
    unfold ctC
    split <;> first | rfl | (have hb : ¬ b = i := (fun q => h ⟨rfl, q⟩)
                             simp [gI_pI, gL_pL, gI_pL, gL_pI, gN_pI, gN_pL, hb])
theorem HC_Product_price (i : Nat) (v : Int32) (h : WW D vwCl A ad (cvC σ) (fun a b => if a = 7 ∧ b = i then .inr (4, ([.int (gI σ 2 i 0), .int (gI σ 5 i 0), .ref (ad 8 i)]).set 0 (.int v)) else ctC dA ad σ a b) H) : HC D dA A ad (pI σ 2 i 0 v) H :=
  WW_congr h (fun _ _ q => q) (fun a b _ => ctC_Product_price i v a b)
theorem ctC_Product_halted (i : Nat) (v : Int32) : ∀ a b, ctC dA ad (pI σ 5 i 0 v) a b = if a = 7 ∧ b = i then .inr (4, ([.int (gI σ 2 i 0), .int (gI σ 5 i 0), .ref (ad 8 i)]).set 1 (.int v)) else ctC dA ad σ a b := by
  intro a b
  by_cases h : a = 7 ∧ b = i
  · obtain ⟨rfl, rfl⟩ := h
    rw [if_pos ⟨rfl, rfl⟩]
    simp [ctC, gI_pI, gL_pL, gI_pL, gL_pI, gN_pI, gN_pL]
  · rw [if_neg h]
    unfold ctC
    split <;> first | rfl | (have hb : ¬ b = i := (fun q => h ⟨rfl, q⟩)
                             simp [gI_pI, gL_pL, gI_pL, gL_pI, gN_pI, gN_pL, hb])
theorem HC_Product_halted (i : Nat) (v : Int32) (h : WW D vwCl A ad (cvC σ) (fun a b => if a = 7 ∧ b = i then .inr (4, ([.int (gI σ 2 i 0), .int (gI σ 5 i 0), .ref (ad 8 i)]).set 1 (.int v)) else ctC dA ad σ a b) H) : HC D dA A ad (pI σ 5 i 0 v) H :=
  WW_congr h (fun _ _ q => q) (fun a b _ => ctC_Product_halted i v a b)
theorem ctC_row8 (i k : Nat) (v : Int32) : ∀ a b, ctC dA ad (pI σ 8 i k v) a b = if a = 8 ∧ b = i then .inl (dA 0, 4, .inl (upd (fun j => gI σ 8 i j) k v)) else ctC dA ad σ a b := by
  intro a b
  by_cases h : a = 8 ∧ b = i
  · obtain ⟨rfl, rfl⟩ := h
    rw [if_pos ⟨rfl, rfl⟩]
    simp only [ctC]; congr 4; funext j; simp [upd, gI_pI]
  · rw [if_neg h]
    unfold ctC
    split <;> first | rfl | (have hb : ¬ b = i := (fun q => h ⟨rfl, q⟩)
                             simp [gI_pI, gL_pL, gI_pL, gL_pI, gN_pI, gN_pL, hb])
theorem HC_row8 (i k : Nat) (v : Int32) (h : WW D vwCl A ad (cvC σ) (fun a b => if a = 8 ∧ b = i then .inl (dA 0, 4, .inl (upd (fun j => gI σ 8 i j) k v)) else ctC dA ad σ a b) H) : HC D dA A ad (pI σ 8 i k v) H :=
  WW_congr h (fun _ _ q => q) (fun a b _ => ctC_row8 i k v a b)
theorem ctC_Kind_haircut (i : Nat) (v : Int32) : ∀ a b, ctC dA ad (pI σ 6 i 0 v) a b = if a = 10 ∧ b = i then .inr (2, ([.ref (ad 11 i), .int (gI σ 6 i 0)]).set 1 (.int v)) else ctC dA ad σ a b := by
  intro a b
  by_cases h : a = 10 ∧ b = i
  · obtain ⟨rfl, rfl⟩ := h
    rw [if_pos ⟨rfl, rfl⟩]
    simp [ctC, gI_pI, gL_pL, gI_pL, gL_pI, gN_pI, gN_pL]
  · rw [if_neg h]
    unfold ctC
    split <;> first | rfl | (have hb : ¬ b = i := (fun q => h ⟨rfl, q⟩)
                             simp [gI_pI, gL_pL, gI_pL, gL_pI, gN_pI, gN_pL, hb])
theorem HC_Kind_haircut (i : Nat) (v : Int32) (h : WW D vwCl A ad (cvC σ) (fun a b => if a = 10 ∧ b = i then .inr (2, ([.ref (ad 11 i), .int (gI σ 6 i 0)]).set 1 (.int v)) else ctC dA ad σ a b) H) : HC D dA A ad (pI σ 6 i 0 v) H :=
  WW_congr h (fun _ _ q => q) (fun a b _ => ctC_Kind_haircut i v a b)
theorem ctC_row11 (i k : Nat) (v : Int32) : ∀ a b, ctC dA ad (pI σ 11 i k v) a b = if a = 11 ∧ b = i then .inl (dA 0, 4, .inl (upd (fun j => gI σ 11 i j) k v)) else ctC dA ad σ a b := by
  intro a b
  by_cases h : a = 11 ∧ b = i
  · obtain ⟨rfl, rfl⟩ := h
    rw [if_pos ⟨rfl, rfl⟩]
    simp only [ctC]; congr 4; funext j; simp [upd, gI_pI]
  · rw [if_neg h]
    unfold ctC
    split <;> first | rfl | (have hb : ¬ b = i := (fun q => h ⟨rfl, q⟩)
                             simp [gI_pI, gL_pL, gI_pL, gL_pI, gN_pI, gN_pL, hb])
theorem HC_row11 (i k : Nat) (v : Int32) (h : WW D vwCl A ad (cvC σ) (fun a b => if a = 11 ∧ b = i then .inl (dA 0, 4, .inl (upd (fun j => gI σ 11 i j) k v)) else ctC dA ad σ a b) H) : HC D dA A ad (pI σ 11 i k v) H :=
  WW_congr h (fun _ _ q => q) (fun a b _ => ctC_row11 i k v a b)
theorem ctC_orders_modCount (i : Nat) (v : Int32) : ∀ a b, ctC dA ad (pI σ 22 i 0 v) a b = if a = 12 ∧ b = i then .inr (0, ([.int (gI σ 22 i 0), .ref (ad 13 0), .int (nI (gN σ 0))]).set 0 (.int v)) else ctC dA ad σ a b := by
  intro a b
  by_cases h : a = 12 ∧ b = i
  · obtain ⟨rfl, rfl⟩ := h
    rw [if_pos ⟨rfl, rfl⟩]
    simp [ctC, gI_pI, gL_pL, gI_pL, gL_pI, gN_pI, gN_pL]
  · rw [if_neg h]
    unfold ctC
    split <;> first | rfl | (have hb : ¬ b = i := (fun q => h ⟨rfl, q⟩)
                             simp [gI_pI, gL_pL, gI_pL, gL_pI, gN_pI, gN_pL, hb])
theorem HC_orders_modCount (i : Nat) (v : Int32) (h : WW D vwCl A ad (cvC σ) (fun a b => if a = 12 ∧ b = i then .inr (0, ([.int (gI σ 22 i 0), .ref (ad 13 0), .int (nI (gN σ 0))]).set 0 (.int v)) else ctC dA ad σ a b) H) : HC D dA A ad (pI σ 22 i 0 v) H :=
  WW_congr h (fun _ _ q => q) (fun a b _ => ctC_orders_modCount i v a b)
theorem ctC_log_modCount (i : Nat) (v : Int32) : ∀ a b, ctC dA ad (pI σ 23 i 0 v) a b = if a = 14 ∧ b = i then .inr (0, ([.int (gI σ 23 i 0), .ref (ad 15 0), .int (nI (gN σ 1))]).set 0 (.int v)) else ctC dA ad σ a b := by
  intro a b
  by_cases h : a = 14 ∧ b = i
  · obtain ⟨rfl, rfl⟩ := h
    rw [if_pos ⟨rfl, rfl⟩]
    simp [ctC, gI_pI, gL_pL, gI_pL, gL_pI, gN_pI, gN_pL]
  · rw [if_neg h]
    unfold ctC
    split <;> first | rfl | (have hb : ¬ b = i := (fun q => h ⟨rfl, q⟩)
                             simp [gI_pI, gL_pL, gI_pL, gL_pI, gN_pI, gN_pL, hb])
theorem HC_log_modCount (i : Nat) (v : Int32) (h : WW D vwCl A ad (cvC σ) (fun a b => if a = 14 ∧ b = i then .inr (0, ([.int (gI σ 23 i 0), .ref (ad 15 0), .int (nI (gN σ 1))]).set 0 (.int v)) else ctC dA ad σ a b) H) : HC D dA A ad (pI σ 23 i 0 v) H :=
  WW_congr h (fun _ _ q => q) (fun a b _ => ctC_log_modCount i v a b)
theorem ctC_row16 (i k : Nat) (v : Int64) : ∀ a b, ctC dA ad (pL σ 16 i k v) a b = if a = 16 ∧ b = i then .inl (dA 1, 4, .inr (.inl (vp_updL (fun j => gL σ 16 i j) k v))) else ctC dA ad σ a b := by
  intro a b
  by_cases h : a = 16 ∧ b = i
  · obtain ⟨rfl, rfl⟩ := h
    rw [if_pos ⟨rfl, rfl⟩]
    simp only [ctC]; congr 5; funext j; simp [vp_updL, gL_pL]
  · rw [if_neg h]
    unfold ctC
    split <;> first | rfl | (have hb : ¬ b = i := (fun q => h ⟨rfl, q⟩)
                             simp [gI_pI, gL_pL, gI_pL, gL_pI, gN_pI, gN_pL, hb])
theorem HC_row16 (i k : Nat) (v : Int64) (h : WW D vwCl A ad (cvC σ) (fun a b => if a = 16 ∧ b = i then .inl (dA 1, 4, .inr (.inl (vp_updL (fun j => gL σ 16 i j) k v))) else ctC dA ad σ a b) H) : HC D dA A ad (pL σ 16 i k v) H :=
  WW_congr h (fun _ _ q => q) (fun a b _ => ctC_row16 i k v a b)
theorem ctC_Order_number (i : Nat) (v : Int32) : ∀ a b, ctC dA ad (pI σ 30 i 0 v) a b = if a = 17 ∧ b = i then .inr (3, ([.int (gI σ 30 i 0), .int (gI σ 31 i 0), .int (gI σ 32 i 0), .int (gI σ 33 i 0), .int (gI σ 34 i 0), .int (gI σ 35 i 0)]).set 0 (.int v)) else ctC dA ad σ a b := by
  intro a b
  by_cases h : a = 17 ∧ b = i
  · obtain ⟨rfl, rfl⟩ := h
    rw [if_pos ⟨rfl, rfl⟩]
    simp [ctC, gI_pI, gL_pL, gI_pL, gL_pI, gN_pI, gN_pL]
  · rw [if_neg h]
    unfold ctC
    split <;> first | rfl | (have hb : ¬ b = i := (fun q => h ⟨rfl, q⟩)
                             simp [gI_pI, gL_pL, gI_pL, gL_pI, gN_pI, gN_pL, hb])
theorem HC_Order_number (i : Nat) (v : Int32) (h : WW D vwCl A ad (cvC σ) (fun a b => if a = 17 ∧ b = i then .inr (3, ([.int (gI σ 30 i 0), .int (gI σ 31 i 0), .int (gI σ 32 i 0), .int (gI σ 33 i 0), .int (gI σ 34 i 0), .int (gI σ 35 i 0)]).set 0 (.int v)) else ctC dA ad σ a b) H) : HC D dA A ad (pI σ 30 i 0 v) H :=
  WW_congr h (fun _ _ q => q) (fun a b _ => ctC_Order_number i v a b)
theorem ctC_Order_member (i : Nat) (v : Int32) : ∀ a b, ctC dA ad (pI σ 31 i 0 v) a b = if a = 17 ∧ b = i then .inr (3, ([.int (gI σ 30 i 0), .int (gI σ 31 i 0), .int (gI σ 32 i 0), .int (gI σ 33 i 0), .int (gI σ 34 i 0), .int (gI σ 35 i 0)]).set 1 (.int v)) else ctC dA ad σ a b := by
  intro a b
  by_cases h : a = 17 ∧ b = i
  · obtain ⟨rfl, rfl⟩ := h
    rw [if_pos ⟨rfl, rfl⟩]
    simp [ctC, gI_pI, gL_pL, gI_pL, gL_pI, gN_pI, gN_pL]
  · rw [if_neg h]
    unfold ctC
    split <;> first | rfl | (have hb : ¬ b = i := (fun q => h ⟨rfl, q⟩)
                             simp [gI_pI, gL_pL, gI_pL, gL_pI, gN_pI, gN_pL, hb])
theorem HC_Order_member (i : Nat) (v : Int32) (h : WW D vwCl A ad (cvC σ) (fun a b => if a = 17 ∧ b = i then .inr (3, ([.int (gI σ 30 i 0), .int (gI σ 31 i 0), .int (gI σ 32 i 0), .int (gI σ 33 i 0), .int (gI σ 34 i 0), .int (gI σ 35 i 0)]).set 1 (.int v)) else ctC dA ad σ a b) H) : HC D dA A ad (pI σ 31 i 0 v) H :=
  WW_congr h (fun _ _ q => q) (fun a b _ => ctC_Order_member i v a b)
theorem ctC_Order_product (i : Nat) (v : Int32) : ∀ a b, ctC dA ad (pI σ 32 i 0 v) a b = if a = 17 ∧ b = i then .inr (3, ([.int (gI σ 30 i 0), .int (gI σ 31 i 0), .int (gI σ 32 i 0), .int (gI σ 33 i 0), .int (gI σ 34 i 0), .int (gI σ 35 i 0)]).set 2 (.int v)) else ctC dA ad σ a b := by
  intro a b
  by_cases h : a = 17 ∧ b = i
  · obtain ⟨rfl, rfl⟩ := h
    rw [if_pos ⟨rfl, rfl⟩]
    simp [ctC, gI_pI, gL_pL, gI_pL, gL_pI, gN_pI, gN_pL]
  · rw [if_neg h]
    unfold ctC
    split <;> first | rfl | (have hb : ¬ b = i := (fun q => h ⟨rfl, q⟩)
                             simp [gI_pI, gL_pL, gI_pL, gL_pI, gN_pI, gN_pL, hb])
theorem HC_Order_product (i : Nat) (v : Int32) (h : WW D vwCl A ad (cvC σ) (fun a b => if a = 17 ∧ b = i then .inr (3, ([.int (gI σ 30 i 0), .int (gI σ 31 i 0), .int (gI σ 32 i 0), .int (gI σ 33 i 0), .int (gI σ 34 i 0), .int (gI σ 35 i 0)]).set 2 (.int v)) else ctC dA ad σ a b) H) : HC D dA A ad (pI σ 32 i 0 v) H :=
  WW_congr h (fun _ _ q => q) (fun a b _ => ctC_Order_product i v a b)
theorem ctC_Order_buys (i : Nat) (v : Int32) : ∀ a b, ctC dA ad (pI σ 33 i 0 v) a b = if a = 17 ∧ b = i then .inr (3, ([.int (gI σ 30 i 0), .int (gI σ 31 i 0), .int (gI σ 32 i 0), .int (gI σ 33 i 0), .int (gI σ 34 i 0), .int (gI σ 35 i 0)]).set 3 (.int v)) else ctC dA ad σ a b := by
  intro a b
  by_cases h : a = 17 ∧ b = i
  · obtain ⟨rfl, rfl⟩ := h
    rw [if_pos ⟨rfl, rfl⟩]
    simp [ctC, gI_pI, gL_pL, gI_pL, gL_pI, gN_pI, gN_pL]
  · rw [if_neg h]
    unfold ctC
    split <;> first | rfl | (have hb : ¬ b = i := (fun q => h ⟨rfl, q⟩)
                             simp [gI_pI, gL_pL, gI_pL, gL_pI, gN_pI, gN_pL, hb])
theorem HC_Order_buys (i : Nat) (v : Int32) (h : WW D vwCl A ad (cvC σ) (fun a b => if a = 17 ∧ b = i then .inr (3, ([.int (gI σ 30 i 0), .int (gI σ 31 i 0), .int (gI σ 32 i 0), .int (gI σ 33 i 0), .int (gI σ 34 i 0), .int (gI σ 35 i 0)]).set 3 (.int v)) else ctC dA ad σ a b) H) : HC D dA A ad (pI σ 33 i 0 v) H :=
  WW_congr h (fun _ _ q => q) (fun a b _ => ctC_Order_buys i v a b)
theorem ctC_Order_limit (i : Nat) (v : Int32) : ∀ a b, ctC dA ad (pI σ 34 i 0 v) a b = if a = 17 ∧ b = i then .inr (3, ([.int (gI σ 30 i 0), .int (gI σ 31 i 0), .int (gI σ 32 i 0), .int (gI σ 33 i 0), .int (gI σ 34 i 0), .int (gI σ 35 i 0)]).set 4 (.int v)) else ctC dA ad σ a b := by
  intro a b
  by_cases h : a = 17 ∧ b = i
  · obtain ⟨rfl, rfl⟩ := h
    rw [if_pos ⟨rfl, rfl⟩]
    simp [ctC, gI_pI, gL_pL, gI_pL, gL_pI, gN_pI, gN_pL]
  · rw [if_neg h]
    unfold ctC
    split <;> first | rfl | (have hb : ¬ b = i := (fun q => h ⟨rfl, q⟩)
                             simp [gI_pI, gL_pL, gI_pL, gL_pI, gN_pI, gN_pL, hb])
theorem HC_Order_limit (i : Nat) (v : Int32) (h : WW D vwCl A ad (cvC σ) (fun a b => if a = 17 ∧ b = i then .inr (3, ([.int (gI σ 30 i 0), .int (gI σ 31 i 0), .int (gI σ 32 i 0), .int (gI σ 33 i 0), .int (gI σ 34 i 0), .int (gI σ 35 i 0)]).set 4 (.int v)) else ctC dA ad σ a b) H) : HC D dA A ad (pI σ 34 i 0 v) H :=
  WW_congr h (fun _ _ q => q) (fun a b _ => ctC_Order_limit i v a b)
theorem ctC_Order_rest (i : Nat) (v : Int32) : ∀ a b, ctC dA ad (pI σ 35 i 0 v) a b = if a = 17 ∧ b = i then .inr (3, ([.int (gI σ 30 i 0), .int (gI σ 31 i 0), .int (gI σ 32 i 0), .int (gI σ 33 i 0), .int (gI σ 34 i 0), .int (gI σ 35 i 0)]).set 5 (.int v)) else ctC dA ad σ a b := by
  intro a b
  by_cases h : a = 17 ∧ b = i
  · obtain ⟨rfl, rfl⟩ := h
    rw [if_pos ⟨rfl, rfl⟩]
    simp [ctC, gI_pI, gL_pL, gI_pL, gL_pI, gN_pI, gN_pL]
  · rw [if_neg h]
    unfold ctC
    split <;> first | rfl | (have hb : ¬ b = i := (fun q => h ⟨rfl, q⟩)
                             simp [gI_pI, gL_pL, gI_pL, gL_pI, gN_pI, gN_pL, hb])
theorem HC_Order_rest (i : Nat) (v : Int32) (h : WW D vwCl A ad (cvC σ) (fun a b => if a = 17 ∧ b = i then .inr (3, ([.int (gI σ 30 i 0), .int (gI σ 31 i 0), .int (gI σ 32 i 0), .int (gI σ 33 i 0), .int (gI σ 34 i 0), .int (gI σ 35 i 0)]).set 5 (.int v)) else ctC dA ad σ a b) H) : HC D dA A ad (pI σ 35 i 0 v) H :=
  WW_congr h (fun _ _ q => q) (fun a b _ => ctC_Order_rest i v a b)
theorem ctC_Trade_buyer (i : Nat) (v : Int32) : ∀ a b, ctC dA ad (pI σ 40 i 0 v) a b = if a = 18 ∧ b = i then .inr (5, ([.int (gI σ 40 i 0), .int (gI σ 41 i 0), .int (gI σ 42 i 0), .int (gI σ 43 i 0), .int (gI σ 44 i 0)]).set 0 (.int v)) else ctC dA ad σ a b := by
  intro a b
  by_cases h : a = 18 ∧ b = i
  · obtain ⟨rfl, rfl⟩ := h
    rw [if_pos ⟨rfl, rfl⟩]
    simp [ctC, gI_pI, gL_pL, gI_pL, gL_pI, gN_pI, gN_pL]
  · rw [if_neg h]
    unfold ctC
    split <;> first | rfl | (have hb : ¬ b = i := (fun q => h ⟨rfl, q⟩)
                             simp [gI_pI, gL_pL, gI_pL, gL_pI, gN_pI, gN_pL, hb])
theorem HC_Trade_buyer (i : Nat) (v : Int32) (h : WW D vwCl A ad (cvC σ) (fun a b => if a = 18 ∧ b = i then .inr (5, ([.int (gI σ 40 i 0), .int (gI σ 41 i 0), .int (gI σ 42 i 0), .int (gI σ 43 i 0), .int (gI σ 44 i 0)]).set 0 (.int v)) else ctC dA ad σ a b) H) : HC D dA A ad (pI σ 40 i 0 v) H :=
  WW_congr h (fun _ _ q => q) (fun a b _ => ctC_Trade_buyer i v a b)
theorem ctC_Trade_seller (i : Nat) (v : Int32) : ∀ a b, ctC dA ad (pI σ 41 i 0 v) a b = if a = 18 ∧ b = i then .inr (5, ([.int (gI σ 40 i 0), .int (gI σ 41 i 0), .int (gI σ 42 i 0), .int (gI σ 43 i 0), .int (gI σ 44 i 0)]).set 1 (.int v)) else ctC dA ad σ a b := by
  intro a b
  by_cases h : a = 18 ∧ b = i
  · obtain ⟨rfl, rfl⟩ := h
    rw [if_pos ⟨rfl, rfl⟩]
    simp [ctC, gI_pI, gL_pL, gI_pL, gL_pI, gN_pI, gN_pL]
  · rw [if_neg h]
    unfold ctC
    split <;> first | rfl | (have hb : ¬ b = i := (fun q => h ⟨rfl, q⟩)
                             simp [gI_pI, gL_pL, gI_pL, gL_pI, gN_pI, gN_pL, hb])
theorem HC_Trade_seller (i : Nat) (v : Int32) (h : WW D vwCl A ad (cvC σ) (fun a b => if a = 18 ∧ b = i then .inr (5, ([.int (gI σ 40 i 0), .int (gI σ 41 i 0), .int (gI σ 42 i 0), .int (gI σ 43 i 0), .int (gI σ 44 i 0)]).set 1 (.int v)) else ctC dA ad σ a b) H) : HC D dA A ad (pI σ 41 i 0 v) H :=
  WW_congr h (fun _ _ q => q) (fun a b _ => ctC_Trade_seller i v a b)
theorem ctC_Trade_product (i : Nat) (v : Int32) : ∀ a b, ctC dA ad (pI σ 42 i 0 v) a b = if a = 18 ∧ b = i then .inr (5, ([.int (gI σ 40 i 0), .int (gI σ 41 i 0), .int (gI σ 42 i 0), .int (gI σ 43 i 0), .int (gI σ 44 i 0)]).set 2 (.int v)) else ctC dA ad σ a b := by
  intro a b
  by_cases h : a = 18 ∧ b = i
  · obtain ⟨rfl, rfl⟩ := h
    rw [if_pos ⟨rfl, rfl⟩]
    simp [ctC, gI_pI, gL_pL, gI_pL, gL_pI, gN_pI, gN_pL]
  · rw [if_neg h]
    unfold ctC
    split <;> first | rfl | (have hb : ¬ b = i := (fun q => h ⟨rfl, q⟩)
                             simp [gI_pI, gL_pL, gI_pL, gL_pI, gN_pI, gN_pL, hb])
theorem HC_Trade_product (i : Nat) (v : Int32) (h : WW D vwCl A ad (cvC σ) (fun a b => if a = 18 ∧ b = i then .inr (5, ([.int (gI σ 40 i 0), .int (gI σ 41 i 0), .int (gI σ 42 i 0), .int (gI σ 43 i 0), .int (gI σ 44 i 0)]).set 2 (.int v)) else ctC dA ad σ a b) H) : HC D dA A ad (pI σ 42 i 0 v) H :=
  WW_congr h (fun _ _ q => q) (fun a b _ => ctC_Trade_product i v a b)
theorem ctC_Trade_quantity (i : Nat) (v : Int32) : ∀ a b, ctC dA ad (pI σ 43 i 0 v) a b = if a = 18 ∧ b = i then .inr (5, ([.int (gI σ 40 i 0), .int (gI σ 41 i 0), .int (gI σ 42 i 0), .int (gI σ 43 i 0), .int (gI σ 44 i 0)]).set 3 (.int v)) else ctC dA ad σ a b := by
  intro a b
  by_cases h : a = 18 ∧ b = i
  · obtain ⟨rfl, rfl⟩ := h
    rw [if_pos ⟨rfl, rfl⟩]
    simp [ctC, gI_pI, gL_pL, gI_pL, gL_pI, gN_pI, gN_pL]
  · rw [if_neg h]
    unfold ctC
    split <;> first | rfl | (have hb : ¬ b = i := (fun q => h ⟨rfl, q⟩)
                             simp [gI_pI, gL_pL, gI_pL, gL_pI, gN_pI, gN_pL, hb])
theorem HC_Trade_quantity (i : Nat) (v : Int32) (h : WW D vwCl A ad (cvC σ) (fun a b => if a = 18 ∧ b = i then .inr (5, ([.int (gI σ 40 i 0), .int (gI σ 41 i 0), .int (gI σ 42 i 0), .int (gI σ 43 i 0), .int (gI σ 44 i 0)]).set 3 (.int v)) else ctC dA ad σ a b) H) : HC D dA A ad (pI σ 43 i 0 v) H :=
  WW_congr h (fun _ _ q => q) (fun a b _ => ctC_Trade_quantity i v a b)
theorem ctC_Trade_price (i : Nat) (v : Int32) : ∀ a b, ctC dA ad (pI σ 44 i 0 v) a b = if a = 18 ∧ b = i then .inr (5, ([.int (gI σ 40 i 0), .int (gI σ 41 i 0), .int (gI σ 42 i 0), .int (gI σ 43 i 0), .int (gI σ 44 i 0)]).set 4 (.int v)) else ctC dA ad σ a b := by
  intro a b
  by_cases h : a = 18 ∧ b = i
  · obtain ⟨rfl, rfl⟩ := h
    rw [if_pos ⟨rfl, rfl⟩]
    simp [ctC, gI_pI, gL_pL, gI_pL, gL_pI, gN_pI, gN_pL]
  · rw [if_neg h]
    unfold ctC
    split <;> first | rfl | (have hb : ¬ b = i := (fun q => h ⟨rfl, q⟩)
                             simp [gI_pI, gL_pL, gI_pL, gL_pI, gN_pI, gN_pL, hb])
theorem HC_Trade_price (i : Nat) (v : Int32) (h : WW D vwCl A ad (cvC σ) (fun a b => if a = 18 ∧ b = i then .inr (5, ([.int (gI σ 40 i 0), .int (gI σ 41 i 0), .int (gI σ 42 i 0), .int (gI σ 43 i 0), .int (gI σ 44 i 0)]).set 4 (.int v)) else ctC dA ad σ a b) H) : HC D dA A ad (pI σ 44 i 0 v) H :=
  WW_congr h (fun _ _ q => q) (fun a b _ => ctC_Trade_price i v a b)
theorem ctC_row19 (i k : Nat) (v : Int32) : ∀ a b, ctC dA ad (pI σ 19 i k v) a b = if a = 19 ∧ b = i then .inl (dA 0, 3, .inl (upd (fun j => gI σ 19 i j) k v)) else ctC dA ad σ a b := by
  intro a b
  by_cases h : a = 19 ∧ b = i
  · obtain ⟨rfl, rfl⟩ := h
    rw [if_pos ⟨rfl, rfl⟩]
    simp only [ctC]; congr 4; funext j; simp [upd, gI_pI]
  · rw [if_neg h]
    unfold ctC
    split <;> first | rfl | (have hb : ¬ b = i := (fun q => h ⟨rfl, q⟩)
                             simp [gI_pI, gL_pL, gI_pL, gL_pI, gN_pI, gN_pL, hb])
theorem HC_row19 (i k : Nat) (v : Int32) (h : WW D vwCl A ad (cvC σ) (fun a b => if a = 19 ∧ b = i then .inl (dA 0, 3, .inl (upd (fun j => gI σ 19 i j) k v)) else ctC dA ad σ a b) H) : HC D dA A ad (pI σ 19 i k v) H :=
  WW_congr h (fun _ _ q => q) (fun a b _ => ctC_row19 i k v a b)
theorem ctA_list_modCount (i : Nat) (v : Int32) : ∀ a b, ctA dA ad (pI σ 0 i 0 v) a b = if a = 0 ∧ b = i then .inr (0, ([.int (gI σ 0 i 0), .ref (ad 1 0), .int (nI (gN σ 0))]).set 0 (.int v)) else ctA dA ad σ a b := by
  intro a b
  by_cases h : a = 0 ∧ b = i
  · obtain ⟨rfl, rfl⟩ := h
    rw [if_pos ⟨rfl, rfl⟩]
    simp [ctA, gI_pI, gL_pL, gI_pL, gL_pI, gN_pI, gN_pL]
  · rw [if_neg h]
    unfold ctA
    split <;> first | rfl | (have hb : ¬ b = i := (fun q => h ⟨rfl, q⟩)
                             simp [gI_pI, gL_pL, gI_pL, gL_pI, gN_pI, gN_pL, hb])
theorem HA_list_modCount (i : Nat) (v : Int32) (h : WW D vwCl A ad (cvA σ) (fun a b => if a = 0 ∧ b = i then .inr (0, ([.int (gI σ 0 i 0), .ref (ad 1 0), .int (nI (gN σ 0))]).set 0 (.int v)) else ctA dA ad σ a b) H) : HA D dA A ad (pI σ 0 i 0 v) H :=
  WW_congr h (fun _ _ q => q) (fun a b _ => ctA_list_modCount i v a b)
end MEMW
