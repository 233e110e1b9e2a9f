/-! methods that make objects (laid by wip/gen/alloc3.py) -/
/-- a later state's world keeps the earlier one's cells, but those of some families, which may have moved -/
def KA (X : List Nat) (ad ad' : Nat → Nat → Nat) (σ σ' : St) : Prop := ∀ f i, cvC σ f i → f ∉ X → ad' f i = ad f i ∧ cvC σ' f i
theorem KA_rf (X : List Nat) (ad : Nat → Nat → Nat) (σ : St) : KA X ad ad σ σ := fun _ _ h _ => ⟨rfl, h⟩
theorem KA_tr {X Y : List Nat} {a b c : Nat → Nat → Nat} {σ σ1 σ2 : St} (h1 : KA X a b σ σ1) (h2 : KA Y b c σ1 σ2) (hs : ∀ f ∈ Y, f ∈ X) : KA X a c σ σ2 := fun f i hv hf => by
  obtain ⟨e1, v1⟩ := h1 f i hv hf
  obtain ⟨e2, v2⟩ := h2 f i v1 (fun h => hf (hs f h))
  exact ⟨e2.trans e1, v2⟩
theorem cvC_same {a b : St} (h : sameN b a) : cvC b = cvC a := by
  obtain ⟨h0, h1, h2, h3, h4, h5, h6⟩ := h
  funext f i
  unfold cvC
  rw [h2, h3, h4, h5, h6]
theorem KA_same {X : List Nat} {ad ad' : Nat → Nat → Nat} {σ a b : St} (h : KA X ad ad' σ a) (g : sameN b a) : KA X ad ad' σ b := fun f i hv hf => by
  rw [cvC_same g]
  exact h f i hv hf
def LX (ad : Nat → Nat → Nat) (σ : St) (x : Nat) : Prop := (gN σ 2 = 0 → ad 13 0 = x) ∧ (gN σ 3 = 0 → ad 15 0 = x)
theorem LX_same {ad : Nat → Nat → Nat} {a b : St} {x : Nat} (h : LX ad a x) (g : sameN b a) : LX ad b x := by
  obtain ⟨h0, h1, h2, h3, h4, h5, h6⟩ := g
  exact ⟨fun q => h.1 (by rw [← h2]; exact q), fun q => h.2 (by rw [← h3]; exact q)⟩
abbrev PreA (D : va_G) (dA : Nat → ClassId) (ad : Nat → Nat → Nat) (σ : St) (x mi sz : Nat) (U : State) : Prop := U.heap.size = sz ∧ HC D dA (fun _ => True) ad σ U.heap ∧ KS D dA U ∧ EXT x mi (WA ad (cvC σ) sz) U U.heap ∧ LX ad σ x
theorem nadd {a c m m' M : Nat} (h : M = a + m) (e : m = c + m') : M = (a + c) + m' := by omega
theorem nle {a c m m' M : Nat} (h : M = a + m) (e : m = c + m') : a + c ≤ M := by omega
theorem nle0 {a m M : Nat} (h : M = a + m) : a + 0 ≤ M := by omega
theorem nfin {a M : Nat} (h : M = a + 0) : a ≤ M := by omega
section ALC
variable {p : Program} {l : Launch} {e : Env} {R : Room} {s : State} {m : MethodId} {args : Array Value} {below : List Frame} {meth : Method} {c : Code} {H H0 : Heap} {locs : List Loc} {cells slots : Nat} {Q : State → Prop}
variable {cc : ByteArray} {pc nL : Nat} {own : String} {ret : Option FieldType} {ls : Array Slot} {lv : List (Nat × Value)} {rest st0 : List Value} {D : va_G} {dA : Nat → ClassId} {A0 : Nat → Prop} {ad : Nat → Nat → Nat} {σ σ' : St} {a : Array Value} {mc ms MC MS x mi : Nat} {X : List Nat}
theorem preVA_of (hA : ∀ q, s.heap.size ≤ q → A0 q) (hR : HC D dA A0 ad σ H) (hS : va_S A0 s.heap H locs) (hK : KS D dA s) (hX : EXT x mi A0 s s.heap) (hLX : LX ad σ x) (As : List Value) : PreV s H RX5 (ad 0 0) (va_Pc (.ref (ad 0 0) :: As) (PreA D dA ad σ x mi H.size)) As := by
  refine ⟨fun a U g mk q => ?_, va_recv hK.1 (WW_one hR (f := 0) (i := 0) rfl) (q0 := 0) (ci := 6) rfl rfl, fun U hU hW => ⟨rfl, by rw [hU], by rw [hU]; exact WW_weaken hR (fun _ _ => trivial), KS_warm hW hK, EXT_at hX hS (fun q h => wa_fits hA hR hS h) hU hW, hLX⟩⟩
  obtain ⟨q0, q1, q2, q3, q4, q5⟩ := q
  exact ⟨q0, q1, q2, KS_calling q3, EXT_calling q4, q5⟩
theorem preSA_of (hA : ∀ q, s.heap.size ≤ q → A0 q) (hR : HC D dA A0 ad σ H) (hS : va_S A0 s.heap H locs) (hK : KS D dA s) (hX : EXT x mi A0 s s.heap) (hLX : LX ad σ x) (As : List Value) : PreS s H (va_Pc As (PreA D dA ad σ x mi H.size)) As := by
  refine ⟨fun a U g mk q => ?_, fun U hU hW => ⟨rfl, by rw [hU], by rw [hU]; exact WW_weaken hR (fun _ _ => trivial), KS_warm hW hK, EXT_at hX hS (fun q h => wa_fits hA hR hS h) hU hW, hLX⟩⟩
  obtain ⟨q0, q1, q2, q3, q4, q5⟩ := q
  exact ⟨q0, q1, q2, KS_calling q3, EXT_calling q4, q5⟩
theorem kca_v (hr : va_Run p l e R s m args below meth c H locs cells slots mc ms (F0 m pc ls st0) rest (va_Qv (fun (ad' : Nat → Nat → Nat) => KA X ad ad' σ σ' ∧ LX ad' σ' x) (fun ad' t => HC D dA (WA ad (cvC σ) H.size) ad' σ' t.heap) (WA ad (cvC σ) H.size) a) (WA ad (cvC σ) H.size)) (hA : ∀ q, H0.size ≤ q → A0 q) (hR : HC D dA A0 ad σ H) (hS : va_S A0 H0 H locs)
    (kk : ∀ (ad' : Nat → Nat → Nat) (H1 : Heap) (locs1 : List Loc), KA X ad ad' σ σ' → LX ad' σ' x → HC D dA A0 ad' σ' H1 → va_S A0 H0 H1 locs1 → W p l e R s m args below meth c H1 locs1 (cells + mc) (slots + ms) Q (F0 m (pc + 3) ls rest)) : W p l e R s m args below meth c H locs cells slots Q (F0 m pc ls st0) :=
  va_callv hr hS (fun q _ h => wa_fits hA hR hS h) (fun q h => wa_fits hA hR hS h) (fun u t H1 locs1 ht hvm hw hB hz hk hS1 => by
    rw [ht] at hB
    exact kk u H1 locs1 hw.1 hw.2 (WW_weaken hB (fun q h => wa_fits hA hR hS h)) hS1)
theorem kca_i {r : Int32} (hr : va_Run p l e R s m args below meth c H locs cells slots mc ms (F0 m pc ls st0) rest (va_Qi (fun (v : Int32) (ad' : Nat → Nat → Nat) => v = r ∧ KA X ad ad' σ σ' ∧ LX ad' σ' x) (fun ad' t => HC D dA (WA ad (cvC σ) H.size) ad' σ' t.heap) (WA ad (cvC σ) H.size) a) (WA ad (cvC σ) H.size)) (hA : ∀ q, H0.size ≤ q → A0 q) (hR : HC D dA A0 ad σ H) (hS : va_S A0 H0 H locs)
    (kk : ∀ (ad' : Nat → Nat → Nat) (H1 : Heap) (locs1 : List Loc), KA X ad ad' σ σ' → LX ad' σ' x → HC D dA A0 ad' σ' H1 → va_S A0 H0 H1 locs1 → W p l e R s m args below meth c H1 locs1 (cells + mc) (slots + ms) Q (F0 m (pc + 3) ls (.int r :: rest))) : W p l e R s m args below meth c H locs cells slots Q (F0 m pc ls st0) :=
  va_calli hr hS (fun q _ h => wa_fits hA hR hS h) (fun q h => wa_fits hA hR hS h) (fun r' u t H1 locs1 ht hvm hw hB hz hk hS1 => by
    obtain ⟨rfl, h1, h2⟩ := hw
    rw [ht] at hB
    exact kk u H1 locs1 h1 h2 (WW_weaken hB (fun q h => wa_fits hA hR hS h)) hS1)
theorem kca_r (hr : va_Run p l e R s m args below meth c H locs cells slots mc ms (F0 m pc ls st0) rest (va_Qr (fun (ad' : Nat → Nat → Nat) => KA X ad ad' σ σ' ∧ LX ad' σ' x) (fun ad' q t => q = ad' 19 0 ∧ HC D dA (WA ad (cvC σ) H.size) ad' σ' t.heap) (WA ad (cvC σ) H.size) a) (WA ad (cvC σ) H.size)) (hA : ∀ q, H0.size ≤ q → A0 q) (hR : HC D dA A0 ad σ H) (hS : va_S A0 H0 H locs)
    (kk : ∀ (ad' : Nat → Nat → Nat) (H1 : Heap) (locs1 : List Loc), KA X ad ad' σ σ' → LX ad' σ' x → HC D dA A0 ad' σ' H1 → va_S A0 H0 H1 locs1 → W p l e R s m args below meth c H1 locs1 (cells + mc) (slots + ms) Q (F0 m (pc + 3) ls (.ref (ad' 19 0) :: rest))) : W p l e R s m args below meth c H locs cells slots Q (F0 m pc ls st0) :=
  va_callr hr hS (fun q _ h => wa_fits hA hR hS h) (fun q h => wa_fits hA hR hS h) (fun u ra t H1 locs1 ht hvm hw hB hz hk hS1 => by
    rw [ht] at hB
    obtain ⟨rfl, hB⟩ := hB
    exact kk u H1 locs1 hw.1 hw.2 (WW_weaken hB (fun q h => wa_fits hA hR hS h)) hS1)
theorem reta_v {ad0 : Nat → Nat → Nat} {σ0 : St} (hC : CTX p s m args meth c cc nL own none) (hKA : KA X ad0 ad σ0 σ) (hLX : LX ad σ x) (hR : HC D dA A0 ad σ H) (hS : va_S A0 s.heap H locs) (hc : cells ≤ MC) (hs : slots ≤ MS) (hdg : decode cc pc = .ok (.return_, 1)) :
    W p l e R s m args below meth c H locs cells slots (MQ below (va_Qv (fun (ad' : Nat → Nat → Nat) => KA X ad0 ad' σ0 σ ∧ LX ad' σ x) (fun ad' t => HC D dA A0 ad' σ t.heap) A0) args s MC MS A0) (F0 m pc ls []) :=
  W.widen hc hs (W.vret hC.1 hC.2.1 hC.2.2.2.2.2.1 (fun t ht hW => ⟨⟨ad, rfl, ⟨hKA, hLX⟩, by show HC D dA A0 ad σ t.heap; rw [ht]; exact hR⟩, hS.F ht⟩) hS.2.2 hdg hC.2.2.2.2.2.2)
theorem reta_i {ad0 : Nat → Nat → Nat} {σ0 : St} {v : Int32} (hC : CTX p s m args meth c cc nL own (some .int)) (hKA : KA X ad0 ad σ0 σ) (hLX : LX ad σ x) (hR : HC D dA A0 ad σ H) (hS : va_S A0 s.heap H locs) (hc : cells ≤ MC) (hs : slots ≤ MS) (hdg : decode cc pc = .ok (.ireturn, 1)) :
    W p l e R s m args below meth c H locs cells slots (MQ below (va_Qi (fun (z : Int32) (ad' : Nat → Nat → Nat) => z = v ∧ KA X ad0 ad' σ0 σ ∧ LX ad' σ x) (fun ad' t => HC D dA A0 ad' σ t.heap) A0) args s MC MS A0) (F0 m pc ls [.int v]) :=
  W.widen hc hs (W.iret hC.1 hC.2.1 hC.2.2.2.2.2.1 (fun t ht hW => ⟨⟨v, ad, rfl, ⟨rfl, hKA, hLX⟩, by show HC D dA A0 ad σ t.heap; rw [ht]; exact hR⟩, hS.F ht⟩) hS.2.2 hdg hC.2.2.2.2.2.2)
theorem reta_r {ad0 : Nat → Nat → Nat} {σ0 : St} {t0 : FieldType} (hC : CTX p s m args meth c cc nL own (some (.array t0))) (hKA : KA X ad0 ad σ0 σ) (hLX : LX ad σ x) (hR : HC D dA A0 ad σ H) (hS : va_S A0 s.heap H locs) (hc : cells ≤ MC) (hs : slots ≤ MS) (hdg : decode cc pc = .ok (.areturn, 1)) :
    W p l e R s m args below meth c H locs cells slots (MQ below (va_Qr (fun (ad' : Nat → Nat → Nat) => KA X ad0 ad' σ0 σ ∧ LX ad' σ x) (fun ad' q t => q = ad' 19 0 ∧ HC D dA A0 ad' σ t.heap) A0) args s MC MS A0) (F0 m pc ls [.ref (ad 19 0)]) :=
  W.widen hc hs (W.aret hC.1 hC.2.1 hC.2.2.2.2.2.1 (Or.inr ⟨_, rfl⟩) (Or.inr ⟨_, rfl⟩) (fun t ht hW => ⟨⟨ad, ad 19 0, rfl, ⟨hKA, hLX⟩, rfl, by show HC D dA A0 ad σ t.heap; rw [ht]; exact hR⟩, hS.F ht⟩) hS.2.2 hdg hC.2.2.2.2.2.2)
def newO (σ : St) : St := pN (pI (pI (pI (pI (pI (pI σ 30 (gN σ 5) 0 0) 31 (gN σ 5) 0 0) 32 (gN σ 5) 0 0) 33 (gN σ 5) 0 0) 34 (gN σ 5) 0 0) 35 (gN σ 5) 0 0) 5 (gN σ 5 + 1)
set_option maxHeartbeats 4000000 in
theorem new_17 {x idx : Nat} (hC : CTX p s m args meth c cc nL RX5 ret) (hK : KS D dA s) (hA : ∀ q, s.heap.size ≤ q → A0 q) (hR : HC D dA A0 ad σ H) (hS : va_S A0 s.heap H locs) (hLX : LX ad σ x) (hok : gN σ 0 ≤ gN σ 5) (hlink : Cond.classLink RX5 idx RX2 ∈ WU) (hcells : cells + 1 ≤ R.cells) (hslots : slots + 6 ≤ R.slots) (hdg : decode cc pc = .ok (.new idx, 3))
    (kk : ∀ (ad' : Nat → Nat → Nat) (H1 : Heap), KA [] ad ad' σ (newO σ) → LX ad' (newO σ) x → HC D dA A0 ad' (newO σ) H1 → va_S A0 s.heap H1 locs → W p l e R s m args below meth c H1 locs (cells + 1) (slots + 6) Q (F0 m (pc + 3) ls (.ref (ad' 17 (gN σ 5)) :: rest))) : W p l e R s m args below meth c H locs cells slots Q (F0 m pc ls rest) := by
  obtain ⟨hx, hb, hml, hown, hts, hr, hlk⟩ := id hC
  have hnv : ¬ cvC σ 17 (gN σ 5) := Nat.lt_irrefl _
  have hcv : ∀ f j, cvC (newO σ) f j → (f = 17 ∧ j = gN σ 5) ∨ cvC σ f j := by
    intro f j h
    match f, h with
    | 0, h => exact Or.inr h
    | 1, h => exact Or.inr h
    | 2, h => exact Or.inr h
    | 3, h => exact Or.inr h
    | 4, h => exact Or.inr h
    | 5, h => exact Or.inr h
    | 6, h => exact Or.inr h
    | 7, h => exact Or.inr h
    | 8, h => exact Or.inr h
    | 9, h => exact Or.inr h
    | 10, h => exact Or.inr h
    | 11, h => exact Or.inr h
    | 12, h => exact Or.inr h
    | 13, h => exact Or.inr h
    | 14, h => exact Or.inr h
    | 15, h => exact Or.inr h
    | 16, h => exact Or.inr h
    | 17, h => 
      have h : j < gN σ 5 + 1 := h
      rcases Nat.lt_or_ge j (gN σ 5) with h2 | h2
      · exact Or.inr h2
      · exact Or.inl ⟨rfl, by omega⟩
    | 18, h => exact Or.inr h
    | 19, h => exact Or.inr h
    | f + 20, h => exact absurd h (by simp [cvC])
  have hvc : ∀ f j, cvC σ f j → cvC (newO σ) f j := by
    intro f j h
    match f, h with
    | 0, h => exact h
    | 1, h => exact h
    | 2, h => exact h
    | 3, h => exact h
    | 4, h => exact h
    | 5, h => exact h
    | 6, h => exact h
    | 7, h => exact h
    | 8, h => exact h
    | 9, h => exact h
    | 10, h => exact h
    | 11, h => exact h
    | 12, h => exact h
    | 13, h => exact h
    | 14, h => exact h
    | 15, h => exact h
    | 16, h => exact h
    | 17, h => exact Nat.lt_succ_of_lt h
    | 18, h => exact h
    | 19, h => exact h
    | f + 20, h => exact absurd h (by simp [cvC])
  have hct : ∀ q f j, cvC σ f j → ctC dA (ad1 ad 17 (gN σ 5) q) (newO σ) f j = ctC dA ad σ f j := by
    intro q f j h
    match f, h with
    | 0, h => simp [ctC, newO, ad1, gI_pN, gL_pN, gN_pN, gI_pI, gL_pI, gN_pI]
    | 1, h => simp [ctC, newO, ad1, gI_pN, gL_pN, gN_pN, gI_pI, gL_pI, gN_pI]
    | 2, h => simp [ctC, newO, ad1, gI_pN, gL_pN, gN_pN, gI_pI, gL_pI, gN_pI]
    | 3, h => simp [ctC, newO, ad1, gI_pN, gL_pN, gN_pN, gI_pI, gL_pI, gN_pI]
    | 4, h => simp [ctC, newO, ad1, gI_pN, gL_pN, gN_pN, gI_pI, gL_pI, gN_pI]
    | 5, h => simp [ctC, newO, ad1, gI_pN, gL_pN, gN_pN, gI_pI, gL_pI, gN_pI]
    | 6, h => simp [ctC, newO, ad1, gI_pN, gL_pN, gN_pN, gI_pI, gL_pI, gN_pI]
    | 7, h => simp [ctC, newO, ad1, gI_pN, gL_pN, gN_pN, gI_pI, gL_pI, gN_pI]
    | 8, h => simp [ctC, newO, ad1, gI_pN, gL_pN, gN_pN, gI_pI, gL_pI, gN_pI]
    | 9, h => simp [ctC, newO, ad1, gI_pN, gL_pN, gN_pN, gI_pI, gL_pI, gN_pI]
    | 10, h => simp [ctC, newO, ad1, gI_pN, gL_pN, gN_pN, gI_pI, gL_pI, gN_pI]
    | 11, h => simp [ctC, newO, ad1, gI_pN, gL_pN, gN_pN, gI_pI, gL_pI, gN_pI]
    | 12, h => simp [ctC, newO, ad1, gI_pN, gL_pN, gN_pN, gI_pI, gL_pI, gN_pI]
    | 13, h => 
      have ef : (fun k => if k < gN σ 0 then some (ad1 ad 17 (gN σ 5) q 17 k) else none) = (fun k => if k < gN σ 0 then some (ad 17 k) else none) := by
        funext k
        by_cases hk : k < gN σ 0
        · rw [if_pos hk, if_pos hk, ad1_ne (fun e => by omega)]
        · rw [if_neg hk, if_neg hk]
      simp [ctC, newO, gN_pN, gN_pI, ef]
    | 14, h => simp [ctC, newO, ad1, gI_pN, gL_pN, gN_pN, gI_pI, gL_pI, gN_pI]
    | 15, h => simp [ctC, newO, ad1, gI_pN, gL_pN, gN_pN, gI_pI, gL_pI, gN_pI]
    | 16, h => simp [ctC, newO, ad1, gI_pN, gL_pN, gN_pN, gI_pI, gL_pI, gN_pI]
    | 17, h => 
      have hj : ¬ j = gN σ 5 := Nat.ne_of_lt h
      simp [ctC, newO, ad1, gI_pN, gI_pI, gL_pN, gL_pI, hj]
    | 18, h => simp [ctC, newO, ad1, gI_pN, gL_pN, gN_pN, gI_pI, gL_pI, gN_pI]
    | 19, h => simp [ctC, newO, ad1, gI_pN, gL_pN, gN_pN, gI_pI, gL_pI, gN_pI]
    | f + 20, h => exact absurd h (by simp [cvC])
  refine ww_new (f0 := 17) (i0 := gN σ 5) (cv' := cvC (newO σ)) (ct' := fun q => ctC dA (ad1 ad 17 (gN σ 5) q) (newO σ)) (C := RX2) (T := TX2) (N := 6) (ci := 3) (fs := [.int 0, .int 0, .int 0, .int 0, .int 0, .int 0]) hx hb hts iuX2 tyX2 tyX2_ok hown (hts _ hlink) (hts _ q_420) (hts _ q_51) hK.1 hR hS hA rfl (by decide) hcells hslots hnv hcv hct (fun q => by simp [ctC, newO, gI_pN, gI_pI]) hdg (fun q H1 _ hne hR1 hS1 => ?_)
  have hk := kk (ad1 ad 17 (gN σ 5) q) H1 (fun f i hv _ => ⟨ad1_ne (fun e => hnv (by obtain ⟨rfl, rfl⟩ := e; exact hv)), hvc f i hv⟩) ⟨fun h => (ad1_ne (fun e => absurd e.1 (by decide))).trans (hLX.1 h), fun h => (ad1_ne (fun e => absurd e.1 (by decide))).trans (hLX.2 h)⟩ hR1 hS1
  rw [ad1_at] at hk
  exact hk
def newT (σ : St) : St := pN (pI (pI (pI (pI (pI σ 40 (gN σ 6) 0 0) 41 (gN σ 6) 0 0) 42 (gN σ 6) 0 0) 43 (gN σ 6) 0 0) 44 (gN σ 6) 0 0) 6 (gN σ 6 + 1)
set_option maxHeartbeats 4000000 in
theorem new_18 {x idx : Nat} (hC : CTX p s m args meth c cc nL RX5 ret) (hK : KS D dA s) (hA : ∀ q, s.heap.size ≤ q → A0 q) (hR : HC D dA A0 ad σ H) (hS : va_S A0 s.heap H locs) (hLX : LX ad σ x) (hok : gN σ 1 ≤ gN σ 6) (hlink : Cond.classLink RX5 idx RX4 ∈ WU) (hcells : cells + 1 ≤ R.cells) (hslots : slots + 5 ≤ R.slots) (hdg : decode cc pc = .ok (.new idx, 3))
    (kk : ∀ (ad' : Nat → Nat → Nat) (H1 : Heap), KA [] ad ad' σ (newT σ) → LX ad' (newT σ) x → HC D dA A0 ad' (newT σ) H1 → va_S A0 s.heap H1 locs → W p l e R s m args below meth c H1 locs (cells + 1) (slots + 5) Q (F0 m (pc + 3) ls (.ref (ad' 18 (gN σ 6)) :: rest))) : W p l e R s m args below meth c H locs cells slots Q (F0 m pc ls rest) := by
  obtain ⟨hx, hb, hml, hown, hts, hr, hlk⟩ := id hC
  have hnv : ¬ cvC σ 18 (gN σ 6) := Nat.lt_irrefl _
  have hcv : ∀ f j, cvC (newT σ) f j → (f = 18 ∧ j = gN σ 6) ∨ cvC σ f j := by
    intro f j h
    match f, h with
    | 0, h => exact Or.inr h
    | 1, h => exact Or.inr h
    | 2, h => exact Or.inr h
    | 3, h => exact Or.inr h
    | 4, h => exact Or.inr h
    | 5, h => exact Or.inr h
    | 6, h => exact Or.inr h
    | 7, h => exact Or.inr h
    | 8, h => exact Or.inr h
    | 9, h => exact Or.inr h
    | 10, h => exact Or.inr h
    | 11, h => exact Or.inr h
    | 12, h => exact Or.inr h
    | 13, h => exact Or.inr h
    | 14, h => exact Or.inr h
    | 15, h => exact Or.inr h
    | 16, h => exact Or.inr h
    | 17, h => exact Or.inr h
    | 18, h => 
      have h : j < gN σ 6 + 1 := h
      rcases Nat.lt_or_ge j (gN σ 6) with h2 | h2
      · exact Or.inr h2
      · exact Or.inl ⟨rfl, by omega⟩
    | 19, h => exact Or.inr h
    | f + 20, h => exact absurd h (by simp [cvC])
  have hvc : ∀ f j, cvC σ f j → cvC (newT σ) f j := by
    intro f j h
    match f, h with
    | 0, h => exact h
    | 1, h => exact h
    | 2, h => exact h
    | 3, h => exact h
    | 4, h => exact h
    | 5, h => exact h
    | 6, h => exact h
    | 7, h => exact h
    | 8, h => exact h
    | 9, h => exact h
    | 10, h => exact h
    | 11, h => exact h
    | 12, h => exact h
    | 13, h => exact h
    | 14, h => exact h
    | 15, h => exact h
    | 16, h => exact h
    | 17, h => exact h
    | 18, h => exact Nat.lt_succ_of_lt h
    | 19, h => exact h
    | f + 20, h => exact absurd h (by simp [cvC])
  have hct : ∀ q f j, cvC σ f j → ctC dA (ad1 ad 18 (gN σ 6) q) (newT σ) f j = ctC dA ad σ f j := by
    intro q f j h
    match f, h with
    | 0, h => simp [ctC, newT, ad1, gI_pN, gL_pN, gN_pN, gI_pI, gL_pI, gN_pI]
    | 1, h => simp [ctC, newT, ad1, gI_pN, gL_pN, gN_pN, gI_pI, gL_pI, gN_pI]
    | 2, h => simp [ctC, newT, ad1, gI_pN, gL_pN, gN_pN, gI_pI, gL_pI, gN_pI]
    | 3, h => simp [ctC, newT, ad1, gI_pN, gL_pN, gN_pN, gI_pI, gL_pI, gN_pI]
    | 4, h => simp [ctC, newT, ad1, gI_pN, gL_pN, gN_pN, gI_pI, gL_pI, gN_pI]
    | 5, h => simp [ctC, newT, ad1, gI_pN, gL_pN, gN_pN, gI_pI, gL_pI, gN_pI]
    | 6, h => simp [ctC, newT, ad1, gI_pN, gL_pN, gN_pN, gI_pI, gL_pI, gN_pI]
    | 7, h => simp [ctC, newT, ad1, gI_pN, gL_pN, gN_pN, gI_pI, gL_pI, gN_pI]
    | 8, h => simp [ctC, newT, ad1, gI_pN, gL_pN, gN_pN, gI_pI, gL_pI, gN_pI]
    | 9, h => simp [ctC, newT, ad1, gI_pN, gL_pN, gN_pN, gI_pI, gL_pI, gN_pI]
    | 10, h => simp [ctC, newT, ad1, gI_pN, gL_pN, gN_pN, gI_pI, gL_pI, gN_pI]
    | 11, h => simp [ctC, newT, ad1, gI_pN, gL_pN, gN_pN, gI_pI, gL_pI, gN_pI]
    | 12, h => simp [ctC, newT, ad1, gI_pN, gL_pN, gN_pN, gI_pI, gL_pI, gN_pI]
    | 13, h => simp [ctC, newT, ad1, gI_pN, gL_pN, gN_pN, gI_pI, gL_pI, gN_pI]
    | 14, h => simp [ctC, newT, ad1, gI_pN, gL_pN, gN_pN, gI_pI, gL_pI, gN_pI]
    | 15, h => 
      have ef : (fun k => if k < gN σ 1 then some (ad1 ad 18 (gN σ 6) q 18 k) else none) = (fun k => if k < gN σ 1 then some (ad 18 k) else none) := by
        funext k
        by_cases hk : k < gN σ 1
        · rw [if_pos hk, if_pos hk, ad1_ne (fun e => by omega)]
        · rw [if_neg hk, if_neg hk]
      simp [ctC, newT, gN_pN, gN_pI, ef]
    | 16, h => simp [ctC, newT, ad1, gI_pN, gL_pN, gN_pN, gI_pI, gL_pI, gN_pI]
    | 17, h => simp [ctC, newT, ad1, gI_pN, gL_pN, gN_pN, gI_pI, gL_pI, gN_pI]
    | 18, h => 
      have hj : ¬ j = gN σ 6 := Nat.ne_of_lt h
      simp [ctC, newT, ad1, gI_pN, gI_pI, gL_pN, gL_pI, hj]
    | 19, h => simp [ctC, newT, ad1, gI_pN, gL_pN, gN_pN, gI_pI, gL_pI, gN_pI]
    | f + 20, h => exact absurd h (by simp [cvC])
  refine ww_new (f0 := 18) (i0 := gN σ 6) (cv' := cvC (newT σ)) (ct' := fun q => ctC dA (ad1 ad 18 (gN σ 6) q) (newT σ)) (C := RX4) (T := TX4) (N := 5) (ci := 5) (fs := [.int 0, .int 0, .int 0, .int 0, .int 0]) hx hb hts iuX4 tyX4 tyX4_ok hown (hts _ hlink) (hts _ q_530) (hts _ q_55) hK.1 hR hS hA rfl (by decide) hcells hslots hnv hcv hct (fun q => by simp [ctC, newT, gI_pN, gI_pI]) hdg (fun q H1 _ hne hR1 hS1 => ?_)
  have hk := kk (ad1 ad 18 (gN σ 6) q) H1 (fun f i hv _ => ⟨ad1_ne (fun e => hnv (by obtain ⟨rfl, rfl⟩ := e; exact hv)), hvc f i hv⟩) ⟨fun h => (ad1_ne (fun e => absurd e.1 (by decide))).trans (hLX.1 h), fun h => (ad1_ne (fun e => absurd e.1 (by decide))).trans (hLX.2 h)⟩ hR1 hS1
  rw [ad1_at] at hk
  exact hk
def newQ (σ : St) : St := (fun a b c => if a = 19 ∧ b = 0 then 0 else σ.1 a b c, σ.2.1, fun k => if k = 4 then 1 else σ.2.2 k)
theorem gI_newQ (σ : St) (a b c : Nat) : gI (newQ σ) a b c = if a = 19 ∧ b = 0 then 0 else gI σ a b c := rfl
theorem gL_newQ (σ : St) (a b c : Nat) : gL (newQ σ) a b c = gL σ a b c := rfl
theorem gN_newQ (σ : St) (k : Nat) : gN (newQ σ) k = if k = 4 then 1 else gN σ k := rfl
theorem nle1 {a m M : Nat} (h : M = a + m) : a ≤ M := by omega
theorem HC_drop19 (h : HC D dA A0 ad σ H) : HC D dA A0 ad (pN σ 4 0) H := by
  have hv : ∀ f i, cvC (pN σ 4 0) f i → cvC σ f i := by
    intro f i h
    match f, h with
    | 0, h => exact h
    | 1, h => exact h
    | 2, h => exact h
    | 3, h => exact h
    | 4, h => exact h
    | 5, h => exact h
    | 6, h => exact h
    | 7, h => exact h
    | 8, h => exact h
    | 9, h => exact h
    | 10, h => exact h
    | 11, h => exact h
    | 12, h => exact h
    | 13, h => exact h
    | 14, h => exact h
    | 15, h => exact h
    | 16, h => exact h
    | 17, h => exact h
    | 18, h => exact h
    | 19, h => exact absurd h.2 (show ¬ (0 : Nat) = 1 by decide)
    | f + 20, h => exact absurd h (by simp [cvC])
  refine WW_congr h hv (fun f i h => ?_)
  match f, h with
  | 0, h => rfl
  | 1, h => rfl
  | 2, h => rfl
  | 3, h => rfl
  | 4, h => rfl
  | 5, h => rfl
  | 6, h => rfl
  | 7, h => rfl
  | 8, h => rfl
  | 9, h => rfl
  | 10, h => rfl
  | 11, h => rfl
  | 12, h => rfl
  | 13, h => rfl
  | 14, h => rfl
  | 15, h => rfl
  | 16, h => rfl
  | 17, h => rfl
  | 18, h => rfl
  | 19, h => exact absurd h.2 (show ¬ (0 : Nat) = 1 by decide)
  | f + 20, h => exact absurd h (by simp [cvC])
set_option maxHeartbeats 4000000 in
theorem new_19 (hC : CTX p s m args meth c cc nL RX5 ret) (hK : KS D dA s) (hA : ∀ q, s.heap.size ≤ q → A0 q) (hR : HC D dA A0 ad σ H) (hS : va_S A0 s.heap H locs) (hLX : LX ad σ x) (hcells : cells + 1 ≤ R.cells) (hslots : slots + 3 ≤ R.slots) (hdg : decode cc pc = .ok (.newarray .int, 2))
    (kk : ∀ (ad' : Nat → Nat → Nat) (H1 : Heap), KA [19] ad ad' σ (newQ σ) → LX ad' (newQ σ) x → HC D dA A0 ad' (newQ σ) H1 → va_S A0 s.heap H1 locs → W p l e R s m args below meth c H1 locs (cells + 1) (slots + 3) Q (F0 m (pc + 2) ls (.ref (ad' 19 0) :: rest))) : W p l e R s m args below meth c H locs cells slots Q (F0 m pc ls (.int 3 :: rest)) := by
  obtain ⟨hx, hb, hml, hown, hts, hr, hlk⟩ := id hC
  have hR := HC_drop19 hR
  have hnv : ¬ cvC (pN σ 4 0) 19 0 := fun h => absurd h.2 (show ¬ (0 : Nat) = 1 by decide)
  have hcv : ∀ f j, cvC (newQ σ) f j → (f = 19 ∧ j = 0) ∨ cvC (pN σ 4 0) f j := by
    intro f j h
    match f, h with
    | 0, h => exact Or.inr h
    | 1, h => exact Or.inr h
    | 2, h => exact Or.inr h
    | 3, h => exact Or.inr h
    | 4, h => exact Or.inr h
    | 5, h => exact Or.inr h
    | 6, h => exact Or.inr h
    | 7, h => exact Or.inr h
    | 8, h => exact Or.inr h
    | 9, h => exact Or.inr h
    | 10, h => exact Or.inr h
    | 11, h => exact Or.inr h
    | 12, h => exact Or.inr h
    | 13, h => exact Or.inr h
    | 14, h => exact Or.inr h
    | 15, h => exact Or.inr h
    | 16, h => exact Or.inr h
    | 17, h => exact Or.inr h
    | 18, h => exact Or.inr h
    | 19, h => exact Or.inl ⟨rfl, h.1⟩
    | f + 20, h => exact absurd h (by simp [cvC])
  have hct : ∀ q f j, cvC (pN σ 4 0) f j → ctC dA (ad1 ad 19 0 q) (newQ σ) f j = ctC dA ad (pN σ 4 0) f j := by
    intro q f j h
    match f, h with
    | 0, h => simp [ctC, gI_newQ, gL_newQ, gN_newQ, ad1, gI_pN, gL_pN, gN_pN]
    | 1, h => simp [ctC, gI_newQ, gL_newQ, gN_newQ, ad1, gI_pN, gL_pN, gN_pN]
    | 2, h => simp [ctC, gI_newQ, gL_newQ, gN_newQ, ad1, gI_pN, gL_pN, gN_pN]
    | 3, h => simp [ctC, gI_newQ, gL_newQ, gN_newQ, ad1, gI_pN, gL_pN, gN_pN]
    | 4, h => simp [ctC, gI_newQ, gL_newQ, gN_newQ, ad1, gI_pN, gL_pN, gN_pN]
    | 5, h => simp [ctC, gI_newQ, gL_newQ, gN_newQ, ad1, gI_pN, gL_pN, gN_pN]
    | 6, h => simp [ctC, gI_newQ, gL_newQ, gN_newQ, ad1, gI_pN, gL_pN, gN_pN]
    | 7, h => simp [ctC, gI_newQ, gL_newQ, gN_newQ, ad1, gI_pN, gL_pN, gN_pN]
    | 8, h => simp [ctC, gI_newQ, gL_newQ, gN_newQ, ad1, gI_pN, gL_pN, gN_pN]
    | 9, h => simp [ctC, gI_newQ, gL_newQ, gN_newQ, ad1, gI_pN, gL_pN, gN_pN]
    | 10, h => simp [ctC, gI_newQ, gL_newQ, gN_newQ, ad1, gI_pN, gL_pN, gN_pN]
    | 11, h => simp [ctC, gI_newQ, gL_newQ, gN_newQ, ad1, gI_pN, gL_pN, gN_pN]
    | 12, h => simp [ctC, gI_newQ, gL_newQ, gN_newQ, ad1, gI_pN, gL_pN, gN_pN]
    | 13, h => simp [ctC, gI_newQ, gL_newQ, gN_newQ, ad1, gI_pN, gL_pN, gN_pN]
    | 14, h => simp [ctC, gI_newQ, gL_newQ, gN_newQ, ad1, gI_pN, gL_pN, gN_pN]
    | 15, h => simp [ctC, gI_newQ, gL_newQ, gN_newQ, ad1, gI_pN, gL_pN, gN_pN]
    | 16, h => simp [ctC, gI_newQ, gL_newQ, gN_newQ, ad1, gI_pN, gL_pN, gN_pN]
    | 17, h => simp [ctC, gI_newQ, gL_newQ, gN_newQ, ad1, gI_pN, gL_pN, gN_pN]
    | 18, h => simp [ctC, gI_newQ, gL_newQ, gN_newQ, ad1, gI_pN, gL_pN, gN_pN]
    | 19, h => exact absurd h.2 (show ¬ (0 : Nat) = 1 by decide)
    | f + 20, h => exact absurd h (by simp [cvC])
  refine ww_newi (f0 := 19) (i0 := 0) (cv' := cvC (newQ σ)) (ct' := fun q => ctC dA (ad1 ad 19 0 q) (newQ σ)) hx hb (hts _ q_132) hK.1 hR hS hA (by decide) (N' := 3) (by decide) (by decide) hcells hslots hnv hcv hct (fun q => ?_) hdg (fun q H1 _ hne hR1 hS1 => ?_)
  · simp [ctC, gI_newQ]
  have hk := kk (ad1 ad 19 0 q) H1 (fun f i hv hf => ⟨ad1_ne (fun e => hf (by simp [e.1])), ?_⟩) ⟨fun h => (ad1_ne (fun e => absurd e.1 (by decide))).trans (hLX.1 h), fun h => (ad1_ne (fun e => absurd e.1 (by decide))).trans (hLX.2 h)⟩ hR1 hS1
  · rw [ad1_at] at hk
    exact hk
  · match f, hv, hf with
    | 0, hv, hf => exact hv
    | 1, hv, hf => exact hv
    | 2, hv, hf => exact hv
    | 3, hv, hf => exact hv
    | 4, hv, hf => exact hv
    | 5, hv, hf => exact hv
    | 6, hv, hf => exact hv
    | 7, hv, hf => exact hv
    | 8, hv, hf => exact hv
    | 9, hv, hf => exact hv
    | 10, hv, hf => exact hv
    | 11, hv, hf => exact hv
    | 12, hv, hf => exact hv
    | 13, hv, hf => exact hv
    | 14, hv, hf => exact hv
    | 15, hv, hf => exact hv
    | 16, hv, hf => exact hv
    | 17, hv, hf => exact hv
    | 18, hv, hf => exact hv
    | 19, hv, hf => exact absurd (by decide) hf
    | f + 20, hv, hf => exact absurd hv (by simp [cvC])
theorem addLX {n c : Nat} (hle : n ≤ c) (h : acap n c = 0) : False := by
  unfold acap at h
  split at h
  · unfold gcap at h
    split at h <;> omega
  · omega
theorem addw_12 {idx : Nat} (hC : CTX p s m args meth c cc nL own ret) (hK : KS D dA s) (hA : ∀ q, s.heap.size ≤ q → A0 q) (hR : HC D dA A0 ad σ H) (hS : va_S A0 s.heap H locs) (hX : EXT x mi A0 s s.heap) (hLX : LX ad σ x) (hok : gN σ 0 < gN σ 5) (hok2 : gN σ 0 ≤ gN σ 2) (hok3 : gN σ 2 ≤ 1000000) (hl : lv_has ls nL lv) (hlink : Cond.methodLink own idx yJx4a65c_add_9ea2d ∈ WU) (hroom : 6 + 1 ≤ R.frames ∧ 8 + (2 + 11) + 156 ≤ R.locals) (hW : 2 * (F0 m pc ls (.ref (ad 17 (gN σ 0)) :: .ref (ad 12 0) :: rest)).monitorRoom + (rest.map fun v => v.category).sum ≤ 8) (hcs : cells + amc (gN σ 0) (gN σ 2) ≤ R.cells ∧ slots + ams (gN σ 0) (gN σ 2) ≤ R.slots) (hdg : decode cc pc = .ok (.invokevirtual idx, 3))
    (kk : ∀ (ad' : Nat → Nat → Nat) (H1 : Heap) (locs1 : List Loc), KA [13] ad ad' σ (addL12 σ) → LX ad' (addL12 σ) x → HC D dA A0 ad' (addL12 σ) H1 → va_S A0 s.heap H1 locs1 → W p l e R s m args below meth c H1 locs1 (cells + amc (gN σ 0) (gN σ 2)) (slots + ams (gN σ 0) (gN σ 2)) Q (F0 m (pc + 3) ls (.int 1 :: rest))) : W p l e R s m args below meth c H locs cells slots Q (F0 m pc ls (.ref (ad 17 (gN σ 0)) :: .ref (ad 12 0) :: rest)) := by
  refine ls_add12 hC hK hA hR hS hX hLX.1 hok hok2 hok3 hl hlink hroom hW hcs hdg (fun q H1 locs1 hR1 hS1 => kk _ H1 locs1 (fun f i hv hf => ⟨ad1_ne (fun e => hf (by simp [e.1])), ?_⟩) ?_ hR1 hS1)
  · match f, hv, hf with
    | 0, hv, hf => exact hv
    | 1, hv, hf => exact hv
    | 2, hv, hf => exact hv
    | 3, hv, hf => exact hv
    | 4, hv, hf => exact hv
    | 5, hv, hf => exact hv
    | 6, hv, hf => exact hv
    | 7, hv, hf => exact hv
    | 8, hv, hf => exact hv
    | 9, hv, hf => exact hv
    | 10, hv, hf => exact hv
    | 11, hv, hf => exact hv
    | 12, hv, hf => exact hv
    | 13, hv, hf => exact absurd (by decide) hf
    | 14, hv, hf => exact hv
    | 15, hv, hf => exact hv
    | 16, hv, hf => exact hv
    | 17, hv, hf => exact hv
    | 18, hv, hf => exact hv
    | 19, hv, hf => exact hv
    | f + 20, hv, hf => exact absurd hv (by simp [cvC])
  · exact ⟨fun h => (addLX hok2 h).elim, fun h => (ad1_ne (fun e => absurd e.1 (by decide))).trans (hLX.2 h)⟩
theorem addw_14 {idx : Nat} (hC : CTX p s m args meth c cc nL own ret) (hK : KS D dA s) (hA : ∀ q, s.heap.size ≤ q → A0 q) (hR : HC D dA A0 ad σ H) (hS : va_S A0 s.heap H locs) (hX : EXT x mi A0 s s.heap) (hLX : LX ad σ x) (hok : gN σ 1 < gN σ 6) (hok2 : gN σ 1 ≤ gN σ 3) (hok3 : gN σ 3 ≤ 1000000) (hl : lv_has ls nL lv) (hlink : Cond.methodLink own idx yJx4a65c_add_9ea2d ∈ WU) (hroom : 6 + 1 ≤ R.frames ∧ 8 + (2 + 11) + 156 ≤ R.locals) (hW : 2 * (F0 m pc ls (.ref (ad 18 (gN σ 1)) :: .ref (ad 14 0) :: rest)).monitorRoom + (rest.map fun v => v.category).sum ≤ 8) (hcs : cells + amc (gN σ 1) (gN σ 3) ≤ R.cells ∧ slots + ams (gN σ 1) (gN σ 3) ≤ R.slots) (hdg : decode cc pc = .ok (.invokevirtual idx, 3))
    (kk : ∀ (ad' : Nat → Nat → Nat) (H1 : Heap) (locs1 : List Loc), KA [15] ad ad' σ (addL14 σ) → LX ad' (addL14 σ) x → HC D dA A0 ad' (addL14 σ) H1 → va_S A0 s.heap H1 locs1 → W p l e R s m args below meth c H1 locs1 (cells + amc (gN σ 1) (gN σ 3)) (slots + ams (gN σ 1) (gN σ 3)) Q (F0 m (pc + 3) ls (.int 1 :: rest))) : W p l e R s m args below meth c H locs cells slots Q (F0 m pc ls (.ref (ad 18 (gN σ 1)) :: .ref (ad 14 0) :: rest)) := by
  refine ls_add14 hC hK hA hR hS hX hLX.2 hok hok2 hok3 hl hlink hroom hW hcs hdg (fun q H1 locs1 hR1 hS1 => kk _ H1 locs1 (fun f i hv hf => ⟨ad1_ne (fun e => hf (by simp [e.1])), ?_⟩) ?_ hR1 hS1)
  · match f, hv, hf with
    | 0, hv, hf => exact hv
    | 1, hv, hf => exact hv
    | 2, hv, hf => exact hv
    | 3, hv, hf => exact hv
    | 4, hv, hf => exact hv
    | 5, hv, hf => exact hv
    | 6, hv, hf => exact hv
    | 7, hv, hf => exact hv
    | 8, hv, hf => exact hv
    | 9, hv, hf => exact hv
    | 10, hv, hf => exact hv
    | 11, hv, hf => exact hv
    | 12, hv, hf => exact hv
    | 13, hv, hf => exact hv
    | 14, hv, hf => exact hv
    | 15, hv, hf => exact absurd (by decide) hf
    | 16, hv, hf => exact hv
    | 17, hv, hf => exact hv
    | 18, hv, hf => exact hv
    | 19, hv, hf => exact hv
    | f + 20, hv, hf => exact absurd hv (by simp [cvC])
  · exact ⟨fun h => (ad1_ne (fun e => absurd e.1 (by decide))).trans (hLX.1 h), fun h => (addLX hok2 h).elim⟩
end ALC

