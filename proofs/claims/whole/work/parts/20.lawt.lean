/-! THE LAW'S OWN METHODS: the class's world, and the row that an answer is put into (laid by wip/gen/lawt.py) -/
abbrev adT (ad : Nat → Nat → Nat) (o : Nat) : Nat → Nat → Nat := fun f i => if f = 20 then o else ad f i
def cvT (σ : St) (f i : Nat) : Prop := if f = 20 then i = 0 else cvC σ f i
def ctT (dA : Nat → ClassId) (ad : Nat → Nat → Nat) (σ : St) (v : Nat → Int64) (f i : Nat) : va_E := if f = 20 then .inl (dA 1, 1, .inr (.inl v)) else ctC dA ad σ f i
abbrev HT (D : va_G) (dA : Nat → ClassId) (A : Nat → Prop) (ad : Nat → Nat → Nat) (o : Nat) (σ : St) (v : Nat → Int64) (H : Heap) : Prop := WW D vwCl A (adT ad o) (cvT σ) (ctT dA ad σ v) H
theorem cvC_lt {σ : St} {f i : Nat} (h : cvC σ f i) : f < 20 := by
  unfold cvC at h
  split at h <;> first | omega | cases h
theorem cvT_of {σ : St} {f i : Nat} (h : cvC σ f i) : cvT σ f i := by
  have := cvC_lt h
  unfold cvT
  rw [if_neg (by omega)]
  exact h
theorem ctT_ne {dA : Nat → ClassId} {ad : Nat → Nat → Nat} {σ : St} {v : Nat → Int64} {f i : Nat} (h : f ≠ 20) : ctT dA ad σ v f i = ctC dA ad σ f i := if_neg h
theorem cvT_ne {σ : St} {f i : Nat} (h : f ≠ 20) : cvT σ f i = cvC σ f i := if_neg h
theorem cvT_o (σ : St) : cvT σ 20 0 := rfl
theorem adT_ne {ad : Nat → Nat → Nat} {o f i : Nat} (h : f ≠ 20) : adT ad o f i = ad f i := if_neg h
section LWT
variable {D : va_G} {dA : Nat → ClassId} {A A0 : Nat → Prop} {ad ad' : Nat → Nat → Nat} {o : Nat} {σ σ' : St} {v : Nat → Int64} {H H1 : Heap}
theorem HT_inj (h : HT D dA A ad o σ v H) {f i : Nat} (hv : cvC σ f i) : ad f i ≠ o := fun e => by
  have h1 := cvC_lt hv
  have h2 := (h.2 f i 20 0 (cvT_of hv) (cvT_o σ) (by rw [adT_ne (by omega), e]; rfl)).1
  omega
theorem HT_C (h : HT D dA A ad o σ v H) : HC D dA A ad σ H :=
  WW_sub h (fun f i q => ⟨f, i, cvT_of q, (adT_ne (by have := cvC_lt q; omega)).symm, (ctT_ne (by have := cvC_lt q; omega)).symm⟩)
    (fun f i g j q1 q2 e => h.2 f i g j (cvT_of q1) (cvT_of q2) (by rw [adT_ne (by have := cvC_lt q1; omega), adT_ne (by have := cvC_lt q2; omega)]; exact e))
theorem HT_out (h : HT D dA A ad o σ v H) : ¬ WA ad (cvC σ) H.size o := fun q => by
  rcases q with ⟨f, i, hv, e⟩ | q
  · exact HT_inj h hv e.symm
  · have h1 : o < H.size := WW_lt h (cvT_o σ)
    omega
theorem HT_back (h : HT D dA A0 ad o σ v H) (hA : ∀ q, WA ad (cvC σ) H.size q → A0 q) (hB : HC D dA (WA ad (cvC σ) H.size) ad' σ' H1) (hk : ∀ q : Nat, q < H.size → ¬ WA ad (cvC σ) H.size q → H1[q]? = H[q]?) : HT D dA A0 ad' o σ' v H1 := by
  have hne : ∀ f i, cvC σ' f i → ad' f i ≠ o := fun f i q e => HT_out h (by rw [← e]; exact WW_A hB q)
  refine WW_merge h hA hB hk (fun g j q => ?_) (fun f i g j q1 q2 e => ?_)
  · by_cases hg : g = 20
    · subst hg
      refine Or.inl ⟨q, rfl, rfl, HT_out h⟩
    · rw [cvT_ne hg] at q
      exact Or.inr ⟨g, j, q, adT_ne hg, ctT_ne hg⟩
  · by_cases hf : f = 20 <;> by_cases hg : g = 20
    · subst hf; subst hg
      exact ⟨rfl, (show i = 0 from q1).trans (show j = 0 from q2).symm⟩
    · subst hf
      rw [cvT_ne hg] at q2
      rw [adT_ne hg] at e
      exact absurd e.symm (hne g j q2)
    · subst hg
      rw [cvT_ne hf] at q1
      rw [adT_ne hf] at e
      exact absurd e (hne f i q1)
    · rw [cvT_ne hf] at q1
      rw [cvT_ne hg] at q2
      rw [adT_ne hf, adT_ne hg] at e
      exact hB.2 f i g j q1 q2 e
theorem HT_put (x : Int64) (h : WW D vwCl A (adT ad o) (cvT σ) (fun a b => if a = 20 ∧ b = 0 then .inl (dA 1, 1, .inr (.inl (vp_updL v (0 : Int32).toNatClampNeg x))) else ctT dA ad σ v a b) H) : HT D dA A ad o σ (vp_updL v 0 x) H := by
  refine WW_congr h (fun _ _ q => q) (fun f i q => ?_)
  by_cases hf : f = 20
  · subst hf
    have : i = 0 := q
    subst this
    rfl
  · show ctT dA ad σ (vp_updL v 0 x) f i = if f = 20 ∧ i = 0 then _ else ctT dA ad σ v f i
    rw [if_neg (fun z => hf z.1), ctT_ne hf, ctT_ne hf]
end LWT
/-- what no table can say: which exceptions aren't which -/
abbrev NC (U : State) : Prop := va_Nc (exN 2) (exN 1) U ∧ va_Nc (exN 2) (exN 3) U ∧ va_Nc (exN 4) (exN 1) U
theorem NC_moved {u U : State} (hvm : u.vm.Alike U.vm) (h : NC u) : NC U := ⟨h.1.moved hvm, h.2.1.moved hvm, h.2.2.moved hvm⟩
abbrev WT (ad : Nat → Nat → Nat) (o : Nat) (σ : St) (sz : Nat) : Nat → Prop := WA (adT ad o) (cvT σ) sz
abbrev PreT (D : va_G) (dA : Nat → ClassId) (ad : Nat → Nat → Nat) (o : Nat) (σ : St) (v : Nat → Int64) (x mi sz : Nat) (U : State) : Prop := U.heap.size = sz ∧ HT D dA (fun _ => True) ad o σ v U.heap ∧ KS D dA U ∧ EXT x mi (WT ad o σ sz) U U.heap ∧ LX ad σ x ∧ NC U
def WSh (y : MethodName) (cc : ByteArray) (n : Nat) (ret : Option FieldType) (hh : List (Nat × Nat × Nat × Nat)) : List Cond := Cond.codeWith y cc n ret hh :: WU
theorem gH_of {own : String} {idx : Nat} {y : MethodName} {cc : ByteArray} {n : Nat} {ret : Option FieldType} {hh : List (Nat × Nat × Nat × Nat)} (h1 : Cond.methodLink own idx y ∈ WU) (h2 : Cond.static y ∈ WU) (h4 : Cond.initialized y.cls ∈ WU) (h5 : Cond.codeWith y cc n ret hh ∈ WU) : GoodIn WU (va_wsS own idx y (WSh y cc n ret hh)) := by
  intro w hw
  unfold va_wsS WSh at hw
  rcases List.mem_cons.mp hw with rfl | hw
  · exact wu_one h1
  rcases List.mem_cons.mp hw with rfl | hw
  · exact wu_one h2
  rcases List.mem_cons.mp hw with rfl | hw
  · exact wu_one h4
  rcases List.mem_cons.mp hw with rfl | hw
  · exact wu_one h5
  exact wu_one hw
theorem meth_of {l : Launch} {y : MethodName} {cc : ByteArray} {maxL : Nat} {ret : Option FieldType} {hh : List (Nat × Nat × Nat × Nat)} {rm : Room} {Qc : Array Value → State → Outcome → State → Prop} {mc ms : Nat} {free : Addr → Prop} {as : List Value} {Bp : State → Prop} (hy : plainName y.cls = true) (hlen : (lg_sl as).length ≤ maxL)
    (body : ∀ (p : Program) (e : Env) (s : State) (m : MethodId) (below : List Frame) (meth : Method) (c : Code) (ls : Array Slot), CTX p s m as.toArray meth c cc maxL y.cls ret → c.exceptionTable.toList = tableOf hh → Bp s → lv_has ls maxL (lv_args 0 as) →
      W p l e rm s m as.toArray below meth c s.heap [] 0 0 (MQ below Qc as.toArray s mc ms free) (F0 m 0 ls [])) : Met l y (WSh y cc maxL ret hh) rm (va_Pc as Bp) Qc mc ms free := by
  refine MetFree.of_bodyS (code := cc) (maxLocals := maxL) (ret := ret) hy ?_ ?_
  · intro args s m h hn
    obtain ⟨m9, meth, c, hn9, h1, h2, h3, h4, -, h5, h6, -⟩ := Cond.codeWith_spec (atoms_spec (ws := WSh y cc maxL ret hh) h _ List.mem_cons_self)
    cases hn.symm.trans hn9
    exact ⟨meth, c, h1, h2, h3, h4, h5, h6⟩
  · intro p e s m args below meth c s₁ B hml hP _
    obtain ⟨rfl, hB⟩ := hP
    have hts0 := atoms_spec (ws := WSh y cc maxL ret hh) B.pre
    have hh0 : s₁.heap = s.heap := by rw [B.state]; rfl
    have htab := vx_table (x := y) B (hts0 _ List.mem_cons_self)
    obtain ⟨t, a1, o, b1, b2, b3, b4⟩ := body p e s m below meth c _ ⟨B.exec, B.bytes, hml, findClass_of_methodNamed B.named, fun w h => hts0 w (List.mem_cons_of_mem _ h), B.returns, B.notSynchronized⟩ htab hB (lv_entry as hlen) s₁ hh0 (by rw [← lg_entry_eq]; exact Stand.of_body B)
    exact ⟨t, o, by rw [lg_entry_eq]; exact a1, b1, b2, b3, b4⟩
section KT
variable {p : Program} {l : Launch} {e : Env} {R : Room} {s : State} {m : MethodId} {args : Array Value} {below : List Frame} {meth : Method} {c : Code} {H : Heap} {locs : List Loc} {cells slots : Nat} {Q : State → Prop}
variable {cc : ByteArray} {pc nL : Nat} {own : String} {ret : Option FieldType} {ls : Array Slot} {rest st0 : List Value} {D : va_G} {dA : Nat → ClassId} {A0 : Nat → Prop} {ad ad0 : Nat → Nat → Nat} {o : Nat} {σ σ0 : St} {v : Nat → Int64} {a : Array Value} {mc ms MC MS x mi : Nat} {X : List Nat}
theorem wt_fits (hA : ∀ q, s.heap.size ≤ q → A0 q) (hR : HT D dA A0 ad o σ v H) (hS : va_S A0 s.heap H locs) {q : Nat} (h : WA ad (cvC σ) H.size q) : A0 q := by
  rcases h with ⟨f, i, hv, rfl⟩ | h
  · exact WW_A (HT_C hR) hv
  · exact hA q (Nat.le_trans hS.1 h)
theorem kct_i {u : XO (Int32 × St)} (hr : vx_Run p l e R s m args below meth c H locs cells slots mc ms (F0 m pc ls st0) rest (QXi u D dA X ad σ x (WA ad (cvC σ) H.size) a) (XXC u D dA X ad σ x (WA ad (cvC σ) H.size)) (WA ad (cvC σ) H.size)) (hA : ∀ q, s.heap.size ≤ q → A0 q) (hR : HT D dA A0 ad o σ v H) (hS : va_S A0 s.heap H locs)
    (kx : ∀ (k : Nat) (σ' : St) (ad' : Nat → Nat → Nat) (H1 : Heap) (locs1 : List Loc) (ce : Cell) (q9 : Addr), u = .inl (k, σ') → KA X ad ad' σ σ' → LX ad' σ' x → HT D dA A0 ad' o σ' v H1 → va_S A0 s.heap H1 locs1 → H1[q9]? = some ce → ce.vm = .none → s.vm.findClass (exN k) = some ce.cls → vx_W p l e R s m args below meth c H1 locs1 (cells + mc) (slots + ms) Q (F0 m pc ls rest) q9)
    (kk : ∀ (r : Int32) (σ' : St) (ad' : Nat → Nat → Nat) (H1 : Heap) (locs1 : List Loc), u = .inr (r, σ') → KA X ad ad' σ σ' → LX ad' σ' x → HT D dA A0 ad' o σ' v H1 → va_S A0 s.heap H1 locs1 → W p l e R s m args below meth c H1 locs1 (cells + mc) (slots + ms) Q (F0 m (pc + 3) ls (.int r :: rest))) : W p l e R s m args below meth c H locs cells slots Q (F0 m pc ls st0) :=
  vx_calli hr hS (fun q _ h => wt_fits hA hR hS h) (fun q h => wt_fits hA hR hS h) (fun q _ h => wt_fits hA hR hS h)
    (fun E ce q9 w t H1 locs1 ht hvm hu hB hz hk hS1 h1 h2 h3 => by
      obtain ⟨rfl, e1, e2⟩ := hu
      obtain ⟨rfl, hB⟩ := hB
      rw [ht] at hB
      exact kx w.2.1 w.2.2 w.1 H1 locs1 ce q9 rfl e1 e2 (HT_back hR (fun q h => wt_fits hA hR hS h) hB hk) hS1 h1 h2 h3)
    (fun r w t H1 locs1 ht hvm hw hB hz hk hS1 => by
      obtain ⟨rfl, e1, e2⟩ := hw
      rw [ht] at hB
      exact kk r w.2 w.1 H1 locs1 rfl e1 e2 (HT_back hR (fun q h => wt_fits hA hR hS h) hB hk) hS1)
/-- what a method of the law's own tells: its code, the class's state, the row -/
def XT (cat : Nat → Int32) (g : Int32 → Int64) (u : XO (Int32 × St)) (v : Nat → Int64) (z : Int32) (w : St × (Nat → Int64)) : Prop := match u with
  | .inl (k, σ') => z = cat k ∧ w = (σ', v)
  | .inr (r, σ') => z = 0 ∧ w = (σ', vp_updL v 0 (g r))
abbrev QT (cat : Nat → Int32) (g : Int32 → Int64) (u : XO (Int32 × St)) (D : va_G) (dA : Nat → ClassId) (X : List Nat) (ad : Nat → Nat → Nat) (o : Nat) (σ : St) (v : Nat → Int64) (x : Nat) (A : Nat → Prop) := va_Qi (fun (z : Int32) (w : (Nat → Nat → Nat) × St × (Nat → Int64)) => XT cat g u v z w.2 ∧ KA X ad w.1 σ w.2.1 ∧ LX w.1 w.2.1 x) (fun w t => HT D dA A w.1 o w.2.1 w.2.2 t.heap) A
theorem rett_i {cat : Nat → Int32} {g : Int32 → Int64} {u : XO (Int32 × St)} {z : Int32} {v0 : Nat → Int64} (hC : CTX p s m args meth c cc nL own (some .int)) (hx : XT cat g u v0 z (σ, v)) (hKA : KA X ad0 ad σ0 σ) (hLX : LX ad σ x) (hR : HT D dA A0 ad o σ v H) (hS : va_S A0 s.heap H locs) (hc : cells ≤ MC) (hs : slots ≤ MS) (hdg : decode cc pc = .ok (.ireturn, 1)) :
    W p l e R s m args below meth c H locs cells slots (MQ below (QT cat g u D dA X ad0 o σ0 v0 x A0) args s MC MS A0) (F0 m pc ls [.int z]) :=
  W.widen hc hs (W.iret hC.1 hC.2.1 hC.2.2.2.2.2.1 (fun t ht hW => ⟨⟨z, (ad, σ, v), rfl, ⟨hx, hKA, hLX⟩, by show HT D dA A0 ad o σ v t.heap; rw [ht]; exact hR⟩, hS.F ht⟩) hS.2.2 hdg hC.2.2.2.2.2.2)
end KT
