/-! THE LAW OVER TWO HOUSES: the class's world twice, apart; a call of one house leaves the other as it was -/
theorem WW_keep {D : va_G} {cl : List vw_C} {A0 A1 : Nat → Prop} {ad : Nat → Nat → Nat} {cv : Nat → Nat → Prop} {ct : Nat → Nat → va_E} {H H1 : Heap} (h : WW D cl A0 ad cv ct H) (hk : ∀ q : Nat, q < H.size → ¬ A1 q → H1[q]? = H[q]?) (hd : ∀ f i, cv f i → ¬ A1 (ad f i)) : WW D cl A0 ad cv ct H1 := by
  have hB := WW_fit (B := fun q => A0 q ∧ ¬ A1 q) h (fun f i q => ⟨WW_A h q, hd f i q⟩)
  obtain ⟨⟨L, fn, hP, hD, hc⟩, hi⟩ := hB
  exact ⟨⟨L, fn, pl_P fun a ha => (pl_Pat hP ha).kept (hk a (pl_Pat hP ha).lt (pl_DA hD ha).2), hD.weaken (fun _ _ _ q => q.1), hc⟩, hi⟩
/-- a call over one world leaves another one, apart from it, as it was, and apart -/
theorem two_call {D : va_G} {cl : List vw_C} {A0 : Nat → Prop} {ax ay ax' : Nat → Nat → Nat} {cvx cvy cvx' : Nat → Nat → Prop} {cty ctx' : Nat → Nat → va_E} {H H1 : Heap} (hY : WW D cl A0 ay cvy cty H) (hd : ∀ f i g j, cvx f i → cvy g j → ax f i ≠ ay g j) {B : Nat → Prop} (hB : WW D cl B ax' cvx' ctx' H1) (hBA : ∀ q, B q → WA ax cvx H.size q) (hk : ∀ q : Nat, q < H.size → ¬ WA ax cvx H.size q → H1[q]? = H[q]?) : WW D cl A0 ay cvy cty H1 ∧ ∀ f i g j, cvx' f i → cvy g j → ax' f i ≠ ay g j := by
  have ho : ∀ g j, cvy g j → ¬ WA ax cvx H.size (ay g j) := fun g j q z => by
    rcases z with ⟨f, i, hv, e⟩ | z
    · exact hd f i g j hv q e.symm
    · have := WW_lt hY q
      omega
  exact ⟨WW_keep hY hk ho, fun f i g j q1 q2 e => ho g j q2 (by rw [← e]; exact hBA _ (WW_A hB q1))⟩
-- an answer of a call that might throw, where it doesn't
def yb {α β : Type} (x : Option (XO α × Nat × Nat)) (k : α → Option (β × Nat × Nat)) : Option (β × Nat × Nat) := match x with
  | some (.inr a, c, s) => tk c s (k a)
  | _ => none
theorem yb_of {α β : Type} {x : Option (XO α × Nat × Nat)} {k : α → Option (β × Nat × Nat)} {b : β} {m n : Nat} (h : yb x k = some (b, m, n)) : ∃ a m1 n1 m2 n2, x = some (.inr a, m1, n1) ∧ k a = some (b, m2, n2) ∧ m = m1 + m2 ∧ n = n1 + n2 := by
  cases x with
  | none => cases h
  | some q =>
    obtain ⟨a, m1, n1⟩ := q
    cases a with
    | inl e => cases h
    | inr a =>
      obtain ⟨m', n', h1, h2, h3⟩ := tk_of h
      exact ⟨a, m1, n1, m', n', rfl, h1, h2, h3⟩
theorem yb_r {α β : Type} (a : α) (m n : Nat) (k : α → Option (β × Nat × Nat)) : yb (some (.inr a, m, n)) k = tk m n (k a) := rfl
/-- the reference's own number of what was thrown -/
def xcat (k : Nat) : Int32 := if k = 1 ∨ k = 3 then 1 else 2
/-- a method with a table of catches -/
def WSh (y : MethodName) (cc : ByteArray) (n : Nat) (ret : Option FieldType) (hh : List (Nat × Nat × Nat × Nat)) : List Cond := Cond.codeWith y cc n ret hh :: WU
theorem gH_of {own : String} {idx : Nat} {y : MethodName} {cc : ByteArray} {n : Nat} {ret : Option FieldType} {hh : List (Nat × Nat × Nat × Nat)} (h1 : Cond.methodLink own idx y ∈ WU) (h2 : Cond.static y ∈ WU) (h4 : Cond.initialized y.cls ∈ WU) (h5 : Cond.codeWith y cc n ret hh ∈ WU) : GoodIn WU (va_wsS own idx y (WSh y cc n ret hh)) := by
  intro w hw
  unfold va_wsS WSh at hw
  rcases List.mem_cons.mp hw with rfl | hw
  · exact wu_one h1
  rcases List.mem_cons.mp hw with rfl | hw
  · exact wu_one h2
  rcases List.mem_cons.mp hw with rfl | hw
  · exact wu_one h4
  rcases List.mem_cons.mp hw with rfl | hw
  · exact wu_one h5
  exact wu_one hw
theorem meth_of {l : Launch} {y : MethodName} {cc : ByteArray} {maxL : Nat} {ret : Option FieldType} {hh : List (Nat × Nat × Nat × Nat)} {rm : Room} {Qc : Array Value → State → Outcome → State → Prop} {mc ms : Nat} {free : Addr → Prop} {as : List Value} {Bp : State → Prop} (hy : plainName y.cls = true) (hlen : (lg_sl as).length ≤ maxL)
    (body : ∀ (p : Program) (e : Env) (s : State) (m : MethodId) (below : List Frame) (meth : Method) (c : Code) (ls : Array Slot), CTX p s m as.toArray meth c cc maxL y.cls ret → c.exceptionTable.toList = tableOf hh → Bp s → lv_has ls maxL (lv_args 0 as) →
      W p l e rm s m as.toArray below meth c s.heap [] 0 0 (MQ below Qc as.toArray s mc ms free) (F0 m 0 ls [])) : Met l y (WSh y cc maxL ret hh) rm (va_Pc as Bp) Qc mc ms free := by
  refine MetFree.of_bodyS (code := cc) (maxLocals := maxL) (ret := ret) hy ?_ ?_
  · intro args s m h hn
    obtain ⟨m9, meth, c, hn9, h1, h2, h3, h4, -, h5, h6, -⟩ := Cond.codeWith_spec (atoms_spec (ws := WSh y cc maxL ret hh) h _ List.mem_cons_self)
    cases hn.symm.trans hn9
    exact ⟨meth, c, h1, h2, h3, h4, h5, h6⟩
  · intro p e s m args below meth c s₁ B hml hP _
    obtain ⟨rfl, hB⟩ := hP
    have hts0 := atoms_spec (ws := WSh y cc maxL ret hh) B.pre
    have hh0 : s₁.heap = s.heap := by rw [B.state]; rfl
    have htab := vx_table (x := y) B (hts0 _ List.mem_cons_self)
    obtain ⟨t, a1, o, b1, b2, b3, b4⟩ := body p e s m below meth c _ ⟨B.exec, B.bytes, hml, findClass_of_methodNamed B.named, fun w h => hts0 w (List.mem_cons_of_mem _ h), B.returns, B.notSynchronized⟩ htab hB (lv_entry as hlen) s₁ hh0 (Stand.of_body B)
    exact ⟨t, o, by rw [lg_entry_eq]; exact a1, b1, b2, b3, b4⟩
theorem tbl20 {x : Int32} (h : ∀ k : Nat, k < 21 → ¬ x = nI k) : x.toInt < 0 ∨ 20 < x.toInt := by
  by_cases h1 : x.toInt < 0
  · exact Or.inl h1
  by_cases h2 : 20 < x.toInt
  · exact Or.inr h2
  refine absurd ?_ (h x.toInt.toNat (by omega))
  rw [← Int32.toInt_inj, nI_toInt (by omega)]
  omega
/-- the unsigned shift -/
def ush (x y : Int32) : Int32 := (x.toUInt32 >>> (y.toUInt32 &&& Int32.toUInt32 31)).toInt32
/-- both houses, apart -/
abbrev W2 (D : va_G) (dA : Nat → ClassId) (x h1 h2 : Nat) (σ1 σ2 : St) (A : Nat → Prop) (H : Heap) : Prop := ∃ ad1 ad2 : Nat → Nat → Nat, ad1 0 0 = h1 ∧ ad2 0 0 = h2 ∧ HC D dA A ad1 σ1 H ∧ HC D dA A ad2 σ2 H ∧ (∀ f i g j, cvC σ1 f i → cvC σ2 g j → ad1 f i ≠ ad2 g j) ∧ LX ad1 σ1 x ∧ LX ad2 σ2 x
abbrev Pre2 (D : va_G) (dA : Nat → ClassId) (x mi h1 h2 : Nat) (σ1 σ2 : St) (A : Nat → Prop) (sz : Nat) (U : State) : Prop := U.heap.size = sz ∧ (∀ q, sz ≤ q → A q) ∧ W2 D dA x h1 h2 σ1 σ2 A U.heap ∧ KS D dA U ∧ EXT x mi A U U.heap
theorem W2_swap {D : va_G} {dA : Nat → ClassId} {x h1 h2 : Nat} {σ1 σ2 : St} {A : Nat → Prop} {H : Heap} (h : W2 D dA x h1 h2 σ1 σ2 A H) : W2 D dA x h2 h1 σ2 σ1 A H := by
  obtain ⟨ad1, ad2, e1, e2, a1, a2, hJ, b1, b2⟩ := h
  exact ⟨ad2, ad1, e2, e1, a2, a1, fun f i g j q1 q2 e => hJ g j f i q2 q1 e.symm, b2, b1⟩
section TWO
variable {p : Program} {l : Launch} {e : Env} {R : Room} {s : State} {m : MethodId} {args : Array Value} {below : List Frame} {meth : Method} {c : Code} {H H0 : Heap} {locs : List Loc} {cells slots : Nat} {Q : State → Prop}
variable {cc : ByteArray} {pc nL : Nat} {own : String} {ret : Option FieldType} {ls : Array Slot} {rest st0 : List Value} {D : va_G} {dA : Nat → ClassId} {A0 : Nat → Prop} {ad ad0 : Nat → Nat → Nat} {σ σ0 σ1 σ2 σ' τ' : St} {a : Array Value} {mc ms MC MS x mi h1 h2 : Nat} {X : List Nat}
variable {Qc : Array Value → State → Outcome → State → Prop} {XC : String → State → State → Prop}
theorem kcx_iR {q : Int32 × St} (hr : vx_Run p l e R s m args below meth c H locs cells slots mc ms (F0 m pc ls st0) rest (QXi (.inr q) D dA X ad σ x (WA ad (cvC σ) H.size) a) (XXC (.inr q : XO (Int32 × St)) D dA X ad σ x (WA ad (cvC σ) H.size)) (WA ad (cvC σ) H.size)) (hA : ∀ q, s.heap.size ≤ q → A0 q) (hR : HC D dA A0 ad σ H) (hS : va_S A0 s.heap H locs)
    (kk : ∀ (ad' : Nat → Nat → Nat) (H1 : Heap) (locs1 : List Loc), KA X ad ad' σ q.2 → LX ad' q.2 x → HC D dA A0 ad' q.2 H1 → va_S A0 s.heap H1 locs1 → W p l e R s m args below meth c H1 locs1 (cells + mc) (slots + ms) Q (F0 m (pc + 3) ls (.int q.1 :: rest))) : W p l e R s m args below meth c H locs cells slots Q (F0 m pc ls st0) :=
  kcx_i hr hA hR hS (fun _ _ _ _ _ _ _ _ eo => nomatch eo) (fun r σ' ad' H1 locs1 eo h1 h2 h3 h4 => by
    cases eo
    exact kk ad' H1 locs1 h1 h2 h3 h4)
theorem kca_l {r : Int64} (hr : va_Run p l e R s m args below meth c H locs cells slots mc ms (F0 m pc ls st0) rest (va_Ql (fun (v : Int64) (ad' : Nat → Nat → Nat) => v = r ∧ KA X ad ad' σ σ' ∧ LX ad' σ' x) (fun ad' t => HC D dA (WA ad (cvC σ) H.size) ad' σ' t.heap) (WA ad (cvC σ) H.size) a) (WA ad (cvC σ) H.size)) (hA : ∀ q, H0.size ≤ q → A0 q) (hR : HC D dA A0 ad σ H) (hS : va_S A0 H0 H locs)
    (kk : ∀ (ad' : Nat → Nat → Nat) (H1 : Heap) (locs1 : List Loc), KA X ad ad' σ σ' → LX ad' σ' x → HC D dA A0 ad' σ' H1 → va_S A0 H0 H1 locs1 → W p l e R s m args below meth c H1 locs1 (cells + mc) (slots + ms) Q (F0 m (pc + 3) ls (.long r :: rest))) : W p l e R s m args below meth c H locs cells slots Q (F0 m pc ls st0) :=
  va_calll hr hS (fun q _ h => wa_fits hA hR hS h) (fun q h => wa_fits hA hR hS h) (fun r' u t H1 locs1 ht hvm hw hB hz hk hS1 => by
    obtain ⟨rfl, h1, h2⟩ := hw
    rw [ht] at hB
    exact kk u H1 locs1 h1 h2 (WW_weaken hB (fun q h => wa_fits hA hR hS h)) hS1)
theorem reta_l {v : Int64} (hC : CTX p s m args meth c cc nL own (some .long)) (hKA : KA X ad0 ad σ0 σ) (hLX : LX ad σ x) (hR : HC D dA A0 ad σ H) (hS : va_S A0 s.heap H locs) (hc : cells ≤ MC) (hs : slots ≤ MS) (hdg : decode cc pc = .ok (.lreturn, 1)) :
    W p l e R s m args below meth c H locs cells slots (MQ below (va_Ql (fun (z : Int64) (ad' : Nat → Nat → Nat) => z = v ∧ KA X ad0 ad' σ0 σ ∧ LX ad' σ x) (fun ad' t => HC D dA A0 ad' σ t.heap) A0) args s MC MS A0) (F0 m pc ls [.long v]) :=
  W.widen hc hs (W.lret hC.1 hC.2.1 hC.2.2.2.2.2.1 (fun t ht hW => ⟨⟨v, ad, rfl, ⟨rfl, hKA, hLX⟩, by show HC D dA A0 ad σ t.heap; rw [ht]; exact hR⟩, hS.F ht⟩) hS.2.2 hdg hC.2.2.2.2.2.2)
theorem reta_z {v : Int32} (hv : bz v) (hC : CTX p s m args meth c cc nL own (some .boolean)) (hKA : KA X ad0 ad σ0 σ) (hLX : LX ad σ x) (hR : HC D dA A0 ad σ H) (hS : va_S A0 s.heap H locs) (hc : cells ≤ MC) (hs : slots ≤ MS) (hdg : decode cc pc = .ok (.ireturn, 1)) :
    W p l e R s m args below meth c H locs cells slots (MQ below (va_Qi (fun (z : Int32) (ad' : Nat → Nat → Nat) => z = v ∧ KA X ad0 ad' σ0 σ ∧ LX ad' σ x) (fun ad' t => HC D dA A0 ad' σ t.heap) A0) args s MC MS A0) (F0 m pc ls [.int v]) :=
  W.widen hc hs (W.zret hC.1 hC.2.1 hC.2.2.2.2.2.1 (bz_nar hv) (fun t ht hW => ⟨⟨v, ad, rfl, ⟨rfl, hKA, hLX⟩, by show HC D dA A0 ad σ t.heap; rw [ht]; exact hR⟩, hS.F ht⟩) hS.2.2 hdg hC.2.2.2.2.2.2)
-- the rows for both houses
theorem kdA_i {r : Int32} (hX0 : 0 ∉ X) (hA : ∀ q, s.heap.size ≤ q → A0 q) (hW : W2 D dA x h1 h2 σ1 σ2 A0 H) (hS : va_S A0 s.heap H locs)
    (hr : ∀ ad, ad 0 0 = h1 → HC D dA A0 ad σ1 H → LX ad σ1 x → ∃ a : Array Value, va_Run p l e R s m args below meth c H locs cells slots mc ms (F0 m pc ls st0) rest (va_Qi (fun (v : Int32) (ad' : Nat → Nat → Nat) => v = r ∧ KA X ad ad' σ1 σ' ∧ LX ad' σ' x) (fun ad' t => HC D dA (WA ad (cvC σ1) H.size) ad' σ' t.heap) (WA ad (cvC σ1) H.size) a) (WA ad (cvC σ1) H.size))
    (kk : ∀ (H1 : Heap) (locs1 : List Loc), W2 D dA x h1 h2 σ' σ2 A0 H1 → va_S A0 s.heap H1 locs1 → W p l e R s m args below meth c H1 locs1 (cells + mc) (slots + ms) Q (F0 m (pc + 3) ls (.int r :: rest))) : W p l e R s m args below meth c H locs cells slots Q (F0 m pc ls st0) := by
  obtain ⟨ad1, ad2, g1, g2, hR1, hR2, hJ, hL1, hL2⟩ := hW
  obtain ⟨a, hr⟩ := hr ad1 g1 hR1 hL1
  refine va_calli hr hS (fun q _ h => wa_fits hA hR1 hS h) (fun q h => wa_fits hA hR1 hS h) (fun r' u t H1 locs1 ht hvm hw hB hz hk hS1 => ?_)
  obtain ⟨rfl, e1, e2⟩ := hw
  have hB : HC D dA (WA ad1 (cvC σ1) H.size) u σ' t.heap := hB
  rw [ht] at hB
  obtain ⟨b1, b2⟩ := two_call hR2 hJ hB (fun q z => z) hk
  exact kk H1 locs1 ⟨u, ad2, (e1 0 0 rfl hX0).1.trans g1, g2, WW_weaken hB (fun q h => wa_fits hA hR1 hS h), b1, b2, e2, hL2⟩ hS1
theorem kdA_l {r : Int64} (hX0 : 0 ∉ X) (hA : ∀ q, s.heap.size ≤ q → A0 q) (hW : W2 D dA x h1 h2 σ1 σ2 A0 H) (hS : va_S A0 s.heap H locs)
    (hr : ∀ ad, ad 0 0 = h1 → HC D dA A0 ad σ1 H → LX ad σ1 x → ∃ a : Array Value, va_Run p l e R s m args below meth c H locs cells slots mc ms (F0 m pc ls st0) rest (va_Ql (fun (v : Int64) (ad' : Nat → Nat → Nat) => v = r ∧ KA X ad ad' σ1 σ' ∧ LX ad' σ' x) (fun ad' t => HC D dA (WA ad (cvC σ1) H.size) ad' σ' t.heap) (WA ad (cvC σ1) H.size) a) (WA ad (cvC σ1) H.size))
    (kk : ∀ (H1 : Heap) (locs1 : List Loc), W2 D dA x h1 h2 σ' σ2 A0 H1 → va_S A0 s.heap H1 locs1 → W p l e R s m args below meth c H1 locs1 (cells + mc) (slots + ms) Q (F0 m (pc + 3) ls (.long r :: rest))) : W p l e R s m args below meth c H locs cells slots Q (F0 m pc ls st0) := by
  obtain ⟨ad1, ad2, g1, g2, hR1, hR2, hJ, hL1, hL2⟩ := hW
  obtain ⟨a, hr⟩ := hr ad1 g1 hR1 hL1
  refine va_calll hr hS (fun q _ h => wa_fits hA hR1 hS h) (fun q h => wa_fits hA hR1 hS h) (fun r' u t H1 locs1 ht hvm hw hB hz hk hS1 => ?_)
  obtain ⟨rfl, e1, e2⟩ := hw
  have hB : HC D dA (WA ad1 (cvC σ1) H.size) u σ' t.heap := hB
  rw [ht] at hB
  obtain ⟨b1, b2⟩ := two_call hR2 hJ hB (fun q z => z) hk
  exact kk H1 locs1 ⟨u, ad2, (e1 0 0 rfl hX0).1.trans g1, g2, WW_weaken hB (fun q h => wa_fits hA hR1 hS h), b1, b2, e2, hL2⟩ hS1
theorem kdX_i {q : Int32 × St} (hX0 : 0 ∉ X) (hA : ∀ q, s.heap.size ≤ q → A0 q) (hW : W2 D dA x h1 h2 σ1 σ2 A0 H) (hS : va_S A0 s.heap H locs)
    (hr : ∀ ad, ad 0 0 = h1 → HC D dA A0 ad σ1 H → LX ad σ1 x → ∃ a : Array Value, vx_Run p l e R s m args below meth c H locs cells slots mc ms (F0 m pc ls st0) rest (QXi (.inr q) D dA X ad σ1 x (WA ad (cvC σ1) H.size) a) (XXC (.inr q : XO (Int32 × St)) D dA X ad σ1 x (WA ad (cvC σ1) H.size)) (WA ad (cvC σ1) H.size))
    (kk : ∀ (H1 : Heap) (locs1 : List Loc), W2 D dA x h1 h2 q.2 σ2 A0 H1 → va_S A0 s.heap H1 locs1 → W p l e R s m args below meth c H1 locs1 (cells + mc) (slots + ms) Q (F0 m (pc + 3) ls (.int q.1 :: rest))) : W p l e R s m args below meth c H locs cells slots Q (F0 m pc ls st0) := by
  obtain ⟨ad1, ad2, g1, g2, hR1, hR2, hJ, hL1, hL2⟩ := hW
  obtain ⟨a, hr⟩ := hr ad1 g1 hR1 hL1
  refine vx_calli hr hS (fun q _ h => wa_fits hA hR1 hS h) (fun q h => wa_fits hA hR1 hS h) (fun q _ h => wa_fits hA hR1 hS h)
    (fun E ce q9 u t H1 locs1 ht hvm hu hB hz hk hS1 h1 h2 h3 => by
      obtain ⟨eo, e1, e2⟩ := hu
      cases eo)
    (fun r u t H1 locs1 ht hvm hw hB hz hk hS1 => ?_)
  obtain ⟨eo, e1, e2⟩ := hw
  cases eo
  have hB : HC D dA (WA ad1 (cvC σ1) H.size) u.1 u.2 t.heap := hB
  rw [ht] at hB
  obtain ⟨b1, b2⟩ := two_call hR2 hJ hB (fun q z => z) hk
  exact kk H1 locs1 ⟨u.1, ad2, (e1 0 0 rfl hX0).1.trans g1, g2, WW_weaken hB (fun q h => wa_fits hA hR1 hS h), b1, b2, e2, hL2⟩ hS1
theorem kdP_i {r : Int32} (hg : sameN σ' σ1) (hA : ∀ q, s.heap.size ≤ q → A0 q) (hW : W2 D dA x h1 h2 σ1 σ2 A0 H) (hS : va_S A0 s.heap H locs)
    (hr : ∀ ad, ad 0 0 = h1 → HC D dA A0 ad σ1 H → ∃ a : Array Value, va_Run p l e R s m args below meth c H locs cells slots 0 0 (F0 m pc ls st0) rest (va_Qi (fun (z : Int32) (_ : Unit) => z = r) (fun _ t => HC D dA (WA ad (cvC σ1) H.size) ad σ' t.heap) (WA ad (cvC σ1) H.size) a) (WA ad (cvC σ1) H.size))
    (kk : ∀ (H1 : Heap) (locs1 : List Loc), W2 D dA x h1 h2 σ' σ2 A0 H1 → va_S A0 s.heap H1 locs1 → W p l e R s m args below meth c H1 locs1 cells slots Q (F0 m (pc + 3) ls (.int r :: rest))) : W p l e R s m args below meth c H locs cells slots Q (F0 m pc ls st0) := by
  obtain ⟨ad1, ad2, g1, g2, hR1, hR2, hJ, hL1, hL2⟩ := hW
  obtain ⟨a, hr⟩ := hr ad1 g1 hR1
  refine va_calli hr hS (fun q _ h => wa_fits hA hR1 hS h) (fun q h => wa_fits hA hR1 hS h) (fun r' u t H1 locs1 ht hvm hw hB hz hk hS1 => ?_)
  subst hw
  have hB : HC D dA (WA ad1 (cvC σ1) H.size) ad1 σ' t.heap := hB
  rw [ht] at hB
  obtain ⟨b1, b2⟩ := two_call hR2 hJ hB (fun q z => z) hk
  exact kk H1 locs1 ⟨ad1, ad2, g1, g2, WW_weaken hB (fun q h => wa_fits hA hR1 hS h), b1, b2, LX_same hL1 hg, hL2⟩ hS1
theorem preD_of (hA : ∀ q, s.heap.size ≤ q → A0 q) (hW : W2 D dA x h1 h2 σ1 σ2 A0 H) (hS : va_S A0 s.heap H locs) (hK : KS D dA s) (hX : EXT x mi A0 s s.heap) (As : List Value) : PreS s H (va_Pc As (Pre2 D dA x mi h1 h2 σ1 σ2 A0 H.size)) As := by
  refine ⟨fun a U g mk q => ?_, fun U hU hWm => ⟨rfl, by rw [hU], fun q h => hA q (Nat.le_trans hS.1 h), by rw [hU]; exact hW, KS_warm hWm hK, EXT_at hX hS (fun q h => h) hU hWm⟩⟩
  obtain ⟨q0, q1, q2, q3, q4, q5⟩ := q
  exact ⟨q0, q1, q2, q3, KS_calling q4, EXT_calling q5⟩
theorem kdD_i {r : Int32} (hS : va_S A0 s.heap H locs)
    (hr : va_Run p l e R s m args below meth c H locs cells slots mc ms (F0 m pc ls st0) rest (va_Qi (fun (z : Int32) (_ : Unit) => z = r) (fun _ t => W2 D dA x h1 h2 σ' τ' A0 t.heap) A0 a) A0)
    (kk : ∀ (H1 : Heap) (locs1 : List Loc), W2 D dA x h1 h2 σ' τ' A0 H1 → va_S A0 s.heap H1 locs1 → W p l e R s m args below meth c H1 locs1 (cells + mc) (slots + ms) Q (F0 m (pc + 3) ls (.int r :: rest))) : W p l e R s m args below meth c H locs cells slots Q (F0 m pc ls st0) :=
  va_calli hr hS (fun q _ h => h) (fun q h => h) (fun r' u t H1 locs1 ht hvm hw hB hz hk hS1 => by
    subst hw
    have hB : W2 D dA x h1 h2 σ' τ' A0 t.heap := hB
    rw [ht] at hB
    exact kk H1 locs1 hB hS1)
theorem retd_i {v : Int32} (hC : CTX p s m args meth c cc nL own (some .int)) (hW : W2 D dA x h1 h2 σ1 σ2 A0 H) (hS : va_S A0 s.heap H locs) (hc : cells ≤ MC) (hs : slots ≤ MS) (hdg : decode cc pc = .ok (.ireturn, 1)) :
    W p l e R s m args below meth c H locs cells slots (MQ below (va_Qi (fun (z : Int32) (_ : Unit) => z = v) (fun _ t => W2 D dA x h1 h2 σ1 σ2 A0 t.heap) A0) args s MC MS A0) (F0 m pc ls [.int v]) :=
  W.widen hc hs (W.iret hC.1 hC.2.1 hC.2.2.2.2.2.1 (fun t ht _ => ⟨⟨v, (), rfl, rfl, by show W2 D dA x h1 h2 σ1 σ2 A0 t.heap; rw [ht]; exact hW⟩, hS.F ht⟩) hS.2.2 hdg hC.2.2.2.2.2.2)
theorem retd_z {v : Int32} (hv : bz v) (hC : CTX p s m args meth c cc nL own (some .boolean)) (hW : W2 D dA x h1 h2 σ1 σ2 A0 H) (hS : va_S A0 s.heap H locs) (hc : cells ≤ MC) (hs : slots ≤ MS) (hdg : decode cc pc = .ok (.ireturn, 1)) :
    W p l e R s m args below meth c H locs cells slots (MQ below (va_Qi (fun (z : Int32) (_ : Unit) => z = v) (fun _ t => W2 D dA x h1 h2 σ1 σ2 A0 t.heap) A0) args s MC MS A0) (F0 m pc ls [.int v]) :=
  W.widen hc hs (W.zret hC.1 hC.2.1 hC.2.2.2.2.2.1 (bz_nar hv) (fun t ht _ => ⟨⟨v, (), rfl, rfl, by show W2 D dA x h1 h2 σ1 σ2 A0 t.heap; rw [ht]; exact hW⟩, hS.F ht⟩) hS.2.2 hdg hC.2.2.2.2.2.2)
end TWO
