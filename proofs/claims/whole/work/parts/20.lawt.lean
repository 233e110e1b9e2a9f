/-! THE LAW'S OWN METHODS: the class's world, and the row that an answer is put into (laid by wip/gen/lawt.py) -/
abbrev adT (ad : Nat → Nat → Nat) (o : Nat) : Nat → Nat → Nat := fun f i => if f = 20 then o else ad f i
def cvT (σ : St) (f i : Nat) : Prop := if f = 20 then i = 0 else cvC σ f i
def ctT (dA : Nat → ClassId) (ad : Nat → Nat → Nat) (σ : St) (v : Nat → Int64) (f i : Nat) : va_E := if f = 20 then .inl (dA 1, 1, .inr (.inl v)) else ctC dA ad σ f i
abbrev HT (D : va_G) (dA : Nat → ClassId) (A : Nat → Prop) (ad : Nat → Nat → Nat) (o : Nat) (σ : St) (v : Nat → Int64) (H : Heap) : Prop := WW D vwCl A (adT ad o) (cvT σ) (ctT dA ad σ v) H
theorem cvC_lt {σ : St} {f i : Nat} (h : cvC σ f i) : f < 20 := by
  unfold cvC at h
  split at h <;> first | omega | cases h
theorem cvT_of {σ : St} {f i : Nat} (h : cvC σ f i) : cvT σ f i := by
  have := cvC_lt h
  unfold cvT
  rw [if_neg (by omega)]
  exact h
theorem ctT_ne {dA : Nat → ClassId} {ad : Nat → Nat → Nat} {σ : St} {v : Nat → Int64} {f i : Nat} (h : f ≠ 20) : ctT dA ad σ v f i = ctC dA ad σ f i := if_neg h
theorem cvT_ne {σ : St} {f i : Nat} (h : f ≠ 20) : cvT σ f i = cvC σ f i := if_neg h
theorem cvT_o (σ : St) : cvT σ 20 0 := rfl
theorem adT_ne {ad : Nat → Nat → Nat} {o f i : Nat} (h : f ≠ 20) : adT ad o f i = ad f i := if_neg h
section LWT
variable {D : va_G} {dA : Nat → ClassId} {A A0 : Nat → Prop} {ad ad' : Nat → Nat → Nat} {o : Nat} {σ σ' : St} {v : Nat → Int64} {H H1 : Heap}
theorem HT_inj (h : HT D dA A ad o σ v H) {f i : Nat} (hv : cvC σ f i) : ad f i ≠ o := fun e => by
  have h1 := cvC_lt hv
  have h2 := (h.2 f i 20 0 (cvT_of hv) (cvT_o σ) (by rw [adT_ne (by omega), e]; rfl)).1
  omega
theorem HT_C (h : HT D dA A ad o σ v H) : HC D dA A ad σ H :=
  WW_sub h (fun f i q => ⟨f, i, cvT_of q, (adT_ne (by have := cvC_lt q; omega)).symm, (ctT_ne (by have := cvC_lt q; omega)).symm⟩)
    (fun f i g j q1 q2 e => h.2 f i g j (cvT_of q1) (cvT_of q2) (by rw [adT_ne (by have := cvC_lt q1; omega), adT_ne (by have := cvC_lt q2; omega)]; exact e))
theorem HT_out (h : HT D dA A ad o σ v H) : ¬ WA ad (cvC σ) H.size o := fun q => by
  rcases q with ⟨f, i, hv, e⟩ | q
  · exact HT_inj h hv e.symm
  · have h1 : o < H.size := WW_lt h (cvT_o σ)
    omega
theorem HT_back (h : HT D dA A0 ad o σ v H) (hA : ∀ q, WA ad (cvC σ) H.size q → A0 q) (hB : HC D dA (WA ad (cvC σ) H.size) ad' σ' H1) (hk : ∀ q : Nat, q < H.size → ¬ WA ad (cvC σ) H.size q → H1[q]? = H[q]?) : HT D dA A0 ad' o σ' v H1 := by
  have hne : ∀ f i, cvC σ' f i → ad' f i ≠ o := fun f i q e => HT_out h (by rw [← e]; exact WW_A hB q)
  refine WW_merge h hA hB hk (fun g j q => ?_) (fun f i g j q1 q2 e => ?_)
  · by_cases hg : g = 20
    · subst hg
      refine Or.inl ⟨q, rfl, rfl, HT_out h⟩
    · rw [cvT_ne hg] at q
      exact Or.inr ⟨g, j, q, adT_ne hg, ctT_ne hg⟩
  · by_cases hf : f = 20 <;> by_cases hg : g = 20
    · subst hf; subst hg
      exact ⟨rfl, (show i = 0 from q1).trans (show j = 0 from q2).symm⟩
    · subst hf
      rw [cvT_ne hg] at q2
      rw [adT_ne hg] at e
      exact absurd e.symm (hne g j q2)
    · subst hg
      rw [cvT_ne hf] at q1
      rw [adT_ne hf] at e
      exact absurd e (hne f i q1)
    · rw [cvT_ne hf] at q1
      rw [cvT_ne hg] at q2
      rw [adT_ne hf, adT_ne hg] at e
      exact hB.2 f i g j q1 q2 e
theorem HT_put (x : Int64) (h : WW D vwCl A (adT ad o) (cvT σ) (fun a b => if a = 20 ∧ b = 0 then .inl (dA 1, 1, .inr (.inl (vp_updL v (0 : Int32).toNatClampNeg x))) else ctT dA ad σ v a b) H) : HT D dA A ad o σ (vp_updL v 0 x) H := by
  refine WW_congr h (fun _ _ q => q) (fun f i q => ?_)
  by_cases hf : f = 20
  · subst hf
    have : i = 0 := q
    subst this
    rfl
  · show ctT dA ad σ (vp_updL v 0 x) f i = if f = 20 ∧ i = 0 then _ else ctT dA ad σ v f i
    rw [if_neg (fun z => hf z.1), ctT_ne hf, ctT_ne hf]
end LWT
/-- what no table can say: which exceptions aren't which -/
abbrev NC (U : State) : Prop := va_Nc (exN 2) (exN 1) U ∧ va_Nc (exN 2) (exN 3) U ∧ va_Nc (exN 4) (exN 1) U
theorem NC_moved {u U : State} (hvm : u.vm.Alike U.vm) (h : NC u) : NC U := ⟨h.1.moved hvm, h.2.1.moved hvm, h.2.2.moved hvm⟩
abbrev WT (ad : Nat → Nat → Nat) (o : Nat) (σ : St) (sz : Nat) : Nat → Prop := WA (adT ad o) (cvT σ) sz
abbrev PreT (D : va_G) (dA : Nat → ClassId) (ad : Nat → Nat → Nat) (o : Nat) (σ : St) (v : Nat → Int64) (x mi sz : Nat) (U : State) : Prop := U.heap.size = sz ∧ HT D dA (fun _ => True) ad o σ v U.heap ∧ KS D dA U ∧ EXT x mi (WT ad o σ sz) U U.heap ∧ LX ad σ x ∧ NC U
def WSh (y : MethodName) (cc : ByteArray) (n : Nat) (ret : Option FieldType) (hh : List (Nat × Nat × Nat × Nat)) : List Cond := Cond.codeWith y cc n ret hh :: WU
theorem gH_of {own : String} {idx : Nat} {y : MethodName} {cc : ByteArray} {n : Nat} {ret : Option FieldType} {hh : List (Nat × Nat × Nat × Nat)} (h1 : Cond.methodLink own idx y ∈ WU) (h2 : Cond.static y ∈ WU) (h4 : Cond.initialized y.cls ∈ WU) (h5 : Cond.codeWith y cc n ret hh ∈ WU) : GoodIn WU (va_wsS own idx y (WSh y cc n ret hh)) := by
  intro w hw
  unfold va_wsS WSh at hw
  rcases List.mem_cons.mp hw with rfl | hw
  · exact wu_one h1
  rcases List.mem_cons.mp hw with rfl | hw
  · exact wu_one h2
  rcases List.mem_cons.mp hw with rfl | hw
  · exact wu_one h4
  rcases List.mem_cons.mp hw with rfl | hw
  · exact wu_one h5
  exact wu_one hw
theorem meth_of {l : Launch} {y : MethodName} {cc : ByteArray} {maxL : Nat} {ret : Option FieldType} {hh : List (Nat × Nat × Nat × Nat)} {rm : Room} {Qc : Array Value → State → Outcome → State → Prop} {mc ms : Nat} {free : Addr → Prop} {as : List Value} {Bp : State → Prop} (hy : plainName y.cls = true) (hlen : (lg_sl as).length ≤ maxL)
    (body : ∀ (p : Program) (e : Env) (s : State) (m : MethodId) (below : List Frame) (meth : Method) (c : Code) (ls : Array Slot), CTX p s m as.toArray meth c cc maxL y.cls ret → c.exceptionTable.toList = tableOf hh → Bp s → lv_has ls maxL (lv_args 0 as) →
      W p l e rm s m as.toArray below meth c s.heap [] 0 0 (MQ below Qc as.toArray s mc ms free) (F0 m 0 ls [])) : Met l y (WSh y cc maxL ret hh) rm (va_Pc as Bp) Qc mc ms free := by
  refine MetFree.of_bodyS (code := cc) (maxLocals := maxL) (ret := ret) hy ?_ ?_
  · intro args s m h hn
    obtain ⟨m9, meth, c, hn9, h1, h2, h3, h4, -, h5, h6, -⟩ := Cond.codeWith_spec (atoms_spec (ws := WSh y cc maxL ret hh) h _ List.mem_cons_self)
    cases hn.symm.trans hn9
    exact ⟨meth, c, h1, h2, h3, h4, h5, h6⟩
  · intro p e s m args below meth c s₁ B hml hP _
    obtain ⟨rfl, hB⟩ := hP
    have hts0 := atoms_spec (ws := WSh y cc maxL ret hh) B.pre
    have hh0 : s₁.heap = s.heap := by rw [B.state]; rfl
    have htab := vx_table (x := y) B (hts0 _ List.mem_cons_self)
    obtain ⟨t, a1, o, b1, b2, b3, b4⟩ := body p e s m below meth c _ ⟨B.exec, B.bytes, hml, findClass_of_methodNamed B.named, fun w h => hts0 w (List.mem_cons_of_mem _ h), B.returns, B.notSynchronized⟩ htab hB (lv_entry as hlen) s₁ hh0 (Stand.of_body B)
    exact ⟨t, o, by rw [lg_entry_eq]; exact a1, b1, b2, b3, b4⟩
section KT
variable {p : Program} {l : Launch} {e : Env} {R : Room} {s : State} {m : MethodId} {args : Array Value} {below : List Frame} {meth : Method} {c : Code} {H : Heap} {locs : List Loc} {cells slots : Nat} {Q : State → Prop}
variable {cc : ByteArray} {pc nL : Nat} {own : String} {ret : Option FieldType} {ls : Array Slot} {rest st0 : List Value} {D : va_G} {dA : Nat → ClassId} {A0 : Nat → Prop} {ad ad0 : Nat → Nat → Nat} {o : Nat} {σ σ0 : St} {v : Nat → Int64} {a : Array Value} {mc ms MC MS x mi : Nat} {X : List Nat}
theorem wt_fits (hA : ∀ q, s.heap.size ≤ q → A0 q) (hR : HT D dA A0 ad o σ v H) (hS : va_S A0 s.heap H locs) {q : Nat} (h : WA ad (cvC σ) H.size q) : A0 q := by
  rcases h with ⟨f, i, hv, rfl⟩ | h
  · exact WW_A (HT_C hR) hv
  · exact hA q (Nat.le_trans hS.1 h)
theorem preVT_of (hA : ∀ q, s.heap.size ≤ q → A0 q) (hR : HT D dA A0 ad o σ v H) (hS : va_S A0 s.heap H locs) (hK : KS D dA s) (hX : EXT x mi A0 s s.heap) (hLX : LX ad σ x) (As : List Value) : PreV s H RX5 (ad 0 0) (va_Pc (.ref (ad 0 0) :: As) (PreA D dA ad σ x mi H.size)) As := preVA_of hA (HT_C hR) hS hK hX hLX As
theorem kct_i {u : XO (Int32 × St)} (hr : vx_Run p l e R s m args below meth c H locs cells slots mc ms (F0 m pc ls st0) rest (QXi u D dA X ad σ x (WA ad (cvC σ) H.size) a) (XXC u D dA X ad σ x (WA ad (cvC σ) H.size)) (WA ad (cvC σ) H.size)) (hA : ∀ q, s.heap.size ≤ q → A0 q) (hR : HT D dA A0 ad o σ v H) (hS : va_S A0 s.heap H locs)
    (kx : ∀ (k : Nat) (σ' : St) (ad' : Nat → Nat → Nat) (H1 : Heap) (locs1 : List Loc) (ce : Cell) (q9 : Addr), u = .inl (k, σ') → KA X ad ad' σ σ' → LX ad' σ' x → HT D dA A0 ad' o σ' v H1 → va_S A0 s.heap H1 locs1 → H1[q9]? = some ce → ce.vm = .none → s.vm.findClass (exN k) = some ce.cls → vx_W p l e R s m args below meth c H1 locs1 (cells + mc) (slots + ms) Q (F0 m pc ls rest) q9)
    (kk : ∀ (r : Int32) (σ' : St) (ad' : Nat → Nat → Nat) (H1 : Heap) (locs1 : List Loc), u = .inr (r, σ') → KA X ad ad' σ σ' → LX ad' σ' x → HT D dA A0 ad' o σ' v H1 → va_S A0 s.heap H1 locs1 → W p l e R s m args below meth c H1 locs1 (cells + mc) (slots + ms) Q (F0 m (pc + 3) ls (.int r :: rest))) : W p l e R s m args below meth c H locs cells slots Q (F0 m pc ls st0) :=
  vx_calli hr hS (fun q _ h => wt_fits hA hR hS h) (fun q h => wt_fits hA hR hS h) (fun q _ h => wt_fits hA hR hS h)
    (fun E ce q9 w t H1 locs1 ht hvm hu hB hz hk hS1 h1 h2 h3 => by
      obtain ⟨rfl, e1, e2⟩ := hu
      obtain ⟨rfl, hB⟩ := hB
      rw [ht] at hB
      exact kx w.2.1 w.2.2 w.1 H1 locs1 ce q9 rfl e1 e2 (HT_back hR (fun q h => wt_fits hA hR hS h) hB hk) hS1 h1 h2 h3)
    (fun r w t H1 locs1 ht hvm hw hB hz hk hS1 => by
      obtain ⟨rfl, e1, e2⟩ := hw
      rw [ht] at hB
      exact kk r w.2 w.1 H1 locs1 rfl e1 e2 (HT_back hR (fun q h => wt_fits hA hR hS h) hB hk) hS1)
/-- what a method of the law's own tells: its code, the class's state, the row -/
def XT (cat : Nat → Int32) (g : Int32 → Int64) (u : XO (Int32 × St)) (v : Nat → Int64) (z : Int32) (w : St × (Nat → Int64)) : Prop := match u with
  | .inl (k, σ') => z = cat k ∧ w = (σ', v)
  | .inr (r, σ') => z = 0 ∧ w = (σ', vp_updL v 0 (g r))
abbrev QT (cat : Nat → Int32) (g : Int32 → Int64) (u : XO (Int32 × St)) (D : va_G) (dA : Nat → ClassId) (X : List Nat) (ad : Nat → Nat → Nat) (o : Nat) (σ : St) (v : Nat → Int64) (x : Nat) (A : Nat → Prop) := va_Qi (fun (z : Int32) (w : (Nat → Nat → Nat) × St × (Nat → Int64)) => XT cat g u v z w.2 ∧ KA X ad w.1 σ w.2.1 ∧ LX w.1 w.2.1 x) (fun w t => HT D dA A w.1 o w.2.1 w.2.2 t.heap) A
theorem rett_i {cat : Nat → Int32} {g : Int32 → Int64} {u : XO (Int32 × St)} {z : Int32} {v0 : Nat → Int64} (hC : CTX p s m args meth c cc nL own (some .int)) (hx : XT cat g u v0 z (σ, v)) (hKA : KA X ad0 ad σ0 σ) (hLX : LX ad σ x) (hR : HT D dA A0 ad o σ v H) (hS : va_S A0 s.heap H locs) (hc : cells ≤ MC) (hs : slots ≤ MS) (hdg : decode cc pc = .ok (.ireturn, 1)) :
    W p l e R s m args below meth c H locs cells slots (MQ below (QT cat g u D dA X ad0 o σ0 v0 x A0) args s MC MS A0) (F0 m pc ls [.int z]) :=
  W.widen hc hs (W.iret hC.1 hC.2.1 hC.2.2.2.2.2.1 (fun t ht hW => ⟨⟨z, (ad, σ, v), rfl, ⟨hx, hKA, hLX⟩, by show HT D dA A0 ad o σ v t.heap; rw [ht]; exact hR⟩, hS.F ht⟩) hS.2.2 hdg hC.2.2.2.2.2.2)
end KT

def xcat (k : Nat) : Int32 := if k = 1 ∨ k = 3 then 1 else 2
theorem mL_tell (l : Launch) (hst : l.stackTraces = false) (D : va_G) (dA : Nat → ClassId) (ad : Nat → Nat → Nat) (o : Nat) (σ : St) (v : Nat → Int64) (sz x mi : Nat) (p1 : Int32) (p2 : Int32) (u : XO (Int32 × St)) (mc ms : Nat) (hf : fX5_tell σ p1 p2 = some (u, mc, ms)) (hk : ∀ k σ', u = .inl (k, σ') → k = 1) : Met l yL_tell (WSh yL_tell cL_tell 5 (some .int) [(0, 10, 13, 13)]) ({ frames := 9, cells := mc, slots := ms, locals := 155 } : Room) (va_Pc [.ref (ad 0 0), .int p1, .int p2, .ref o] (PreT D dA ad o σ v x mi sz)) (QT xcat (fun r => r.toInt64) u D dA [] ad o σ v x (WT ad o σ sz)) mc ms (WT ad o σ sz) := by
  refine meth_of (by decide) (Nat.le_of_ble_eq_true rfl) ?_
  intro p e s m below meth c ls hC htab hB hl
  obtain ⟨rfl, hR, hK, hX, hLX, hN⟩ := hB
  have hA : ∀ q : Nat, s.heap.size ≤ q → WT ad o σ s.heap.size q := fun q h => Or.inr h
  have hR : HT D dA (WT ad o σ s.heap.size) ad o σ v s.heap := WW_fit hR (fun f i h => WA_in h)
  have hS : va_S (WT ad o σ s.heap.size) s.heap s.heap [] := va_S.rf
  generalize WT ad o σ s.heap.size = A0 at hA hR hS hX ⊢
  have hC : CTX p s m _ meth c cL_tell 5 RL (some .int) := hC
  obtain ⟨hx, hb, hml, hown, hts, hr, hlk⟩ := id hC
  have hl : lv_has ls 5 [(0, .ref (ad 0 0)), (1, .int p1), (2, .int p2), (3, .ref o)] := hl
  have hcap : 0 + mc ≤ mc := Nat.le_of_eq (Nat.zero_add _)
  have hsap : 0 + ms ≤ ms := Nat.le_of_eq (Nat.zero_add _)
  refine lv_aload_n hx hb dL_tell_0 rfl (lv_at hl 3 rfl) ?_
  refine lv_iconst (v := 0) hx hb dL_tell_1 (by decide) ?_
  refine lv_aload_n hx hb dL_tell_2 rfl (lv_at hl 0 rfl) ?_
  refine lv_iload_n hx hb dL_tell_3 rfl (lv_at hl 1 rfl) ?_
  refine lv_iload_n hx hb dL_tell_4 rfl (lv_at hl 2 rfl) ?_
  refine kct_i (vx_runV (As := [.int p1, .int p2]) (rest := [.int 0, .ref o]) ⟨hx, hb, hml, hown, hts⟩ (mX5_tell l hst D dA ad σ _ x mi p1 p2 u mc ms hf) (cwV 2 hts gL_7 rfl rfl rfl (by decide +kernel) ⟨Nat.le_of_ble_eq_true rfl, Nat.le_of_ble_eq_true rfl⟩) (preVT_of hA hR hS hK hX hLX _) rfl rfl hl.1 rfl (lv_room (Nat.le_of_ble_eq_true rfl)) dL_tell_5 ⟨hcap, hsap⟩) hA hR hS (fun k σ' ad' H locs ce q9 eu hka hLX hR hS h1 h2 h3 => ?_) (fun r σ' ad' H locs eu hka hLX hR hS => ?_)
  · have hk1 := hk _ _ eu
    subst eu
    subst hk1
    refine vx_catch (E := exN 1) (name := exN 1) hown [] ⟨0, 10, 13, 13⟩ [] (htab.trans rfl) (fun z hz => nomatch hz) (by decide) (by decide) (hts _ q_465) (va_Nw.use rfl (hK.2 _ q_478)) h1 h2 h3 ?_
    refine lv_astore (lv' := [(4, .ref q9), (0, .ref (ad 0 0)), (1, .int p1), (2, .int p2), (3, .ref o)]) hx hb dL_tell_13 hl (by decide) rfl (fun ls hl => ?_)
    refine lv_iconst (v := 1) hx hb dL_tell_15 (by decide) ?_
    exact rett_i hC ⟨rfl, rfl⟩ hka hLX hR hS hcap hsap dL_tell_16
  · subst eu
    refine lv_i2l hx hb dL_tell_8 rfl ?_
    refine ww_last hx hb hK.1 hR hS 1 (f := 20) (j := 0) (cvT_o _) (cA := dA 1) (n := 1) (fa := v) rfl rfl (show ¬ ((0 : Int32) < 0 ∨ 1 ≤ (0 : Int32).toNatClampNeg) by decide) dL_tell_9 (fun H locs hR hS => ?_)
    have hR := HT_put _ hR
    refine lv_goto (tgt := 17) hx hb dL_tell_10 (by decide) ?_
    refine lv_iconst (v := 0) hx hb dL_tell_17 (by decide) ?_
    exact rett_i hC ⟨rfl, rfl⟩ hka hLX hR hS hcap hsap dL_tell_18
theorem mL_setMove (l : Launch) (hst : l.stackTraces = false) (D : va_G) (dA : Nat → ClassId) (ad : Nat → Nat → Nat) (o : Nat) (σ : St) (v : Nat → Int64) (sz x mi : Nat) (p1 : Int32) (p2 : Int32) (p3 : Int32) (u : XO (Int32 × St)) (mc ms : Nat) (hf : fX5_setMove σ p1 p2 p3 = some (u, mc, ms)) (hk : ∀ k σ', u = .inl (k, σ') → k = 1) : Met l yL_setMove (WSh yL_setMove cL_setMove 6 (some .int) [(0, 12, 15, 13)]) ({ frames := 9, cells := mc, slots := ms, locals := 156 } : Room) (va_Pc [.ref (ad 0 0), .int p1, .int p2, .int p3, .ref o] (PreT D dA ad o σ v x mi sz)) (QT xcat (fun r => r.toInt64) u D dA [] ad o σ v x (WT ad o σ sz)) mc ms (WT ad o σ sz) := by
  refine meth_of (by decide) (Nat.le_of_ble_eq_true rfl) ?_
  intro p e s m below meth c ls hC htab hB hl
  obtain ⟨rfl, hR, hK, hX, hLX, hN⟩ := hB
  have hA : ∀ q : Nat, s.heap.size ≤ q → WT ad o σ s.heap.size q := fun q h => Or.inr h
  have hR : HT D dA (WT ad o σ s.heap.size) ad o σ v s.heap := WW_fit hR (fun f i h => WA_in h)
  have hS : va_S (WT ad o σ s.heap.size) s.heap s.heap [] := va_S.rf
  generalize WT ad o σ s.heap.size = A0 at hA hR hS hX ⊢
  have hC : CTX p s m _ meth c cL_setMove 6 RL (some .int) := hC
  obtain ⟨hx, hb, hml, hown, hts, hr, hlk⟩ := id hC
  have hl : lv_has ls 6 [(0, .ref (ad 0 0)), (1, .int p1), (2, .int p2), (3, .int p3), (4, .ref o)] := hl
  have hcap : 0 + mc ≤ mc := Nat.le_of_eq (Nat.zero_add _)
  have hsap : 0 + ms ≤ ms := Nat.le_of_eq (Nat.zero_add _)
  refine lv_aload hx hb dL_setMove_0 (lv_at hl 4 rfl) ?_
  refine lv_iconst (v := 0) hx hb dL_setMove_2 (by decide) ?_
  refine lv_aload_n hx hb dL_setMove_3 rfl (lv_at hl 0 rfl) ?_
  refine lv_iload_n hx hb dL_setMove_4 rfl (lv_at hl 1 rfl) ?_
  refine lv_iload_n hx hb dL_setMove_5 rfl (lv_at hl 2 rfl) ?_
  refine lv_iload_n hx hb dL_setMove_6 rfl (lv_at hl 3 rfl) ?_
  refine kct_i (vx_runV (As := [.int p1, .int p2, .int p3]) (rest := [.int 0, .ref o]) ⟨hx, hb, hml, hown, hts⟩ (mX5_setMove l hst D dA ad σ _ x mi p1 p2 p3 u mc ms hf) (cwV 3 hts gL_15 rfl rfl rfl (by decide +kernel) ⟨Nat.le_of_ble_eq_true rfl, Nat.le_of_ble_eq_true rfl⟩) (preVT_of hA hR hS hK hX hLX _) rfl rfl hl.1 rfl (lv_room (Nat.le_of_ble_eq_true rfl)) dL_setMove_7 ⟨hcap, hsap⟩) hA hR hS (fun k σ' ad' H locs ce q9 eu hka hLX hR hS h1 h2 h3 => ?_) (fun r σ' ad' H locs eu hka hLX hR hS => ?_)
  · have hk1 := hk _ _ eu
    subst eu
    subst hk1
    refine vx_catch (E := exN 1) (name := exN 1) hown [] ⟨0, 12, 15, 13⟩ [] (htab.trans rfl) (fun z hz => nomatch hz) (by decide) (by decide) (hts _ q_465) (va_Nw.use rfl (hK.2 _ q_478)) h1 h2 h3 ?_
    refine lv_astore (lv' := [(5, .ref q9), (0, .ref (ad 0 0)), (1, .int p1), (2, .int p2), (3, .int p3), (4, .ref o)]) hx hb dL_setMove_15 hl (by decide) rfl (fun ls hl => ?_)
    refine lv_iconst (v := 1) hx hb dL_setMove_17 (by decide) ?_
    exact rett_i hC ⟨rfl, rfl⟩ hka hLX hR hS hcap hsap dL_setMove_18
  · subst eu
    refine lv_i2l hx hb dL_setMove_10 rfl ?_
    refine ww_last hx hb hK.1 hR hS 1 (f := 20) (j := 0) (cvT_o _) (cA := dA 1) (n := 1) (fa := v) rfl rfl (show ¬ ((0 : Int32) < 0 ∨ 1 ≤ (0 : Int32).toNatClampNeg) by decide) dL_setMove_11 (fun H locs hR hS => ?_)
    have hR := HT_put _ hR
    refine lv_goto (tgt := 19) hx hb dL_setMove_12 (by decide) ?_
    refine lv_iconst (v := 0) hx hb dL_setMove_19 (by decide) ?_
    exact rett_i hC ⟨rfl, rfl⟩ hka hLX hR hS hcap hsap dL_setMove_20
theorem mL_tellKind (l : Launch) (hst : l.stackTraces = false) (D : va_G) (dA : Nat → ClassId) (ad : Nat → Nat → Nat) (o : Nat) (σ : St) (v : Nat → Int64) (sz x mi : Nat) (p1 : Int32) (p2 : Int32) (u : XO (Int32 × St)) (mc ms : Nat) (hf : fX5_tellKind σ p1 p2 = some (u, mc, ms)) (hk : ∀ k σ', u = .inl (k, σ') → k = 1) : Met l yL_tellKind (WSh yL_tellKind cL_tellKind 5 (some .int) [(0, 10, 13, 13)]) ({ frames := 9, cells := mc, slots := ms, locals := 156 } : Room) (va_Pc [.ref (ad 0 0), .int p1, .int p2, .ref o] (PreT D dA ad o σ v x mi sz)) (QT xcat (fun r => r.toInt64) u D dA [] ad o σ v x (WT ad o σ sz)) mc ms (WT ad o σ sz) := by
  refine meth_of (by decide) (Nat.le_of_ble_eq_true rfl) ?_
  intro p e s m below meth c ls hC htab hB hl
  obtain ⟨rfl, hR, hK, hX, hLX, hN⟩ := hB
  have hA : ∀ q : Nat, s.heap.size ≤ q → WT ad o σ s.heap.size q := fun q h => Or.inr h
  have hR : HT D dA (WT ad o σ s.heap.size) ad o σ v s.heap := WW_fit hR (fun f i h => WA_in h)
  have hS : va_S (WT ad o σ s.heap.size) s.heap s.heap [] := va_S.rf
  generalize WT ad o σ s.heap.size = A0 at hA hR hS hX ⊢
  have hC : CTX p s m _ meth c cL_tellKind 5 RL (some .int) := hC
  obtain ⟨hx, hb, hml, hown, hts, hr, hlk⟩ := id hC
  have hl : lv_has ls 5 [(0, .ref (ad 0 0)), (1, .int p1), (2, .int p2), (3, .ref o)] := hl
  have hcap : 0 + mc ≤ mc := Nat.le_of_eq (Nat.zero_add _)
  have hsap : 0 + ms ≤ ms := Nat.le_of_eq (Nat.zero_add _)
  refine lv_aload_n hx hb dL_tellKind_0 rfl (lv_at hl 3 rfl) ?_
  refine lv_iconst (v := 0) hx hb dL_tellKind_1 (by decide) ?_
  refine lv_aload_n hx hb dL_tellKind_2 rfl (lv_at hl 0 rfl) ?_
  refine lv_iload_n hx hb dL_tellKind_3 rfl (lv_at hl 1 rfl) ?_
  refine lv_iload_n hx hb dL_tellKind_4 rfl (lv_at hl 2 rfl) ?_
  refine kct_i (vx_runV (As := [.int p1, .int p2]) (rest := [.int 0, .ref o]) ⟨hx, hb, hml, hown, hts⟩ (mX5_tellKind l hst D dA ad σ _ x mi p1 p2 u mc ms hf) (cwV 2 hts gL_19 rfl rfl rfl (by decide +kernel) ⟨Nat.le_of_ble_eq_true rfl, Nat.le_of_ble_eq_true rfl⟩) (preVT_of hA hR hS hK hX hLX _) rfl rfl hl.1 rfl (lv_room (Nat.le_of_ble_eq_true rfl)) dL_tellKind_5 ⟨hcap, hsap⟩) hA hR hS (fun k σ' ad' H locs ce q9 eu hka hLX hR hS h1 h2 h3 => ?_) (fun r σ' ad' H locs eu hka hLX hR hS => ?_)
  · have hk1 := hk _ _ eu
    subst eu
    subst hk1
    refine vx_catch (E := exN 1) (name := exN 1) hown [] ⟨0, 10, 13, 13⟩ [] (htab.trans rfl) (fun z hz => nomatch hz) (by decide) (by decide) (hts _ q_465) (va_Nw.use rfl (hK.2 _ q_478)) h1 h2 h3 ?_
    refine lv_astore (lv' := [(4, .ref q9), (0, .ref (ad 0 0)), (1, .int p1), (2, .int p2), (3, .ref o)]) hx hb dL_tellKind_13 hl (by decide) rfl (fun ls hl => ?_)
    refine lv_iconst (v := 1) hx hb dL_tellKind_15 (by decide) ?_
    exact rett_i hC ⟨rfl, rfl⟩ hka hLX hR hS hcap hsap dL_tellKind_16
  · subst eu
    refine lv_i2l hx hb dL_tellKind_8 rfl ?_
    refine ww_last hx hb hK.1 hR hS 1 (f := 20) (j := 0) (cvT_o _) (cA := dA 1) (n := 1) (fa := v) rfl rfl (show ¬ ((0 : Int32) < 0 ∨ 1 ≤ (0 : Int32).toNatClampNeg) by decide) dL_tellKind_9 (fun H locs hR hS => ?_)
    have hR := HT_put _ hR
    refine lv_goto (tgt := 17) hx hb dL_tellKind_10 (by decide) ?_
    refine lv_iconst (v := 0) hx hb dL_tellKind_17 (by decide) ?_
    exact rett_i hC ⟨rfl, rfl⟩ hka hLX hR hS hcap hsap dL_tellKind_18
theorem mL_pay (l : Launch) (hst : l.stackTraces = false) (D : va_G) (dA : Nat → ClassId) (ad : Nat → Nat → Nat) (o : Nat) (σ : St) (v : Nat → Int64) (sz x mi : Nat) (p1 : Int32) (p2 : Int32) (u : XO (Int32 × St)) (mc ms : Nat) (hf : fX5_pay σ p1 p2 = some (u, mc, ms)) (hk : ∀ k σ', u = .inl (k, σ') → k = 1 ∨ k = 2) : Met l yL_pay (WSh yL_pay cL_pay 5 (some .int) [(0, 10, 13, 13), (0, 10, 17, 25)]) ({ frames := 9, cells := mc, slots := ms, locals := 166 } : Room) (va_Pc [.ref (ad 0 0), .int p1, .int p2, .ref o] (PreT D dA ad o σ v x mi sz)) (QT xcat (fun r => r.toInt64) u D dA [] ad o σ v x (WT ad o σ sz)) mc ms (WT ad o σ sz) := by
  refine meth_of (by decide) (Nat.le_of_ble_eq_true rfl) ?_
  intro p e s m below meth c ls hC htab hB hl
  obtain ⟨rfl, hR, hK, hX, hLX, hN⟩ := hB
  have hA : ∀ q : Nat, s.heap.size ≤ q → WT ad o σ s.heap.size q := fun q h => Or.inr h
  have hR : HT D dA (WT ad o σ s.heap.size) ad o σ v s.heap := WW_fit hR (fun f i h => WA_in h)
  have hS : va_S (WT ad o σ s.heap.size) s.heap s.heap [] := va_S.rf
  generalize WT ad o σ s.heap.size = A0 at hA hR hS hX ⊢
  have hC : CTX p s m _ meth c cL_pay 5 RL (some .int) := hC
  obtain ⟨hx, hb, hml, hown, hts, hr, hlk⟩ := id hC
  have hl : lv_has ls 5 [(0, .ref (ad 0 0)), (1, .int p1), (2, .int p2), (3, .ref o)] := hl
  have hcap : 0 + mc ≤ mc := Nat.le_of_eq (Nat.zero_add _)
  have hsap : 0 + ms ≤ ms := Nat.le_of_eq (Nat.zero_add _)
  refine lv_aload_n hx hb dL_pay_0 rfl (lv_at hl 3 rfl) ?_
  refine lv_iconst (v := 0) hx hb dL_pay_1 (by decide) ?_
  refine lv_aload_n hx hb dL_pay_2 rfl (lv_at hl 0 rfl) ?_
  refine lv_iload_n hx hb dL_pay_3 rfl (lv_at hl 1 rfl) ?_
  refine lv_iload_n hx hb dL_pay_4 rfl (lv_at hl 2 rfl) ?_
  refine kct_i (vx_runV (As := [.int p1, .int p2]) (rest := [.int 0, .ref o]) ⟨hx, hb, hml, hown, hts⟩ (mX5_pay l hst D dA ad σ _ x mi p1 p2 u mc ms hf) (cwV 2 hts gL_22 rfl rfl rfl (by decide +kernel) ⟨Nat.le_of_ble_eq_true rfl, Nat.le_of_ble_eq_true rfl⟩) (preVT_of hA hR hS hK hX hLX _) rfl rfl hl.1 rfl (lv_room (Nat.le_of_ble_eq_true rfl)) dL_pay_5 ⟨hcap, hsap⟩) hA hR hS (fun k σ' ad' H locs ce q9 eu hka hLX hR hS h1 h2 h3 => ?_) (fun r σ' ad' H locs eu hka hLX hR hS => ?_)
  · have hk1 := hk _ _ eu
    subst eu
    rcases hk1 with rfl | rfl
    · refine vx_catch (E := exN 1) (name := exN 1) hown [] ⟨0, 10, 13, 13⟩ [⟨0, 10, 17, 25⟩] (htab.trans rfl) (fun z hz => nomatch hz) (by decide) (by decide) (hts _ q_465) (va_Nw.use rfl (hK.2 _ q_478)) h1 h2 h3 ?_
      refine lv_astore (lv' := [(4, .ref q9), (0, .ref (ad 0 0)), (1, .int p1), (2, .int p2), (3, .ref o)]) hx hb dL_pay_13 hl (by decide) rfl (fun ls hl => ?_)
      refine lv_iconst (v := 1) hx hb dL_pay_15 (by decide) ?_
      exact rett_i hC ⟨rfl, rfl⟩ hka hLX hR hS hcap hsap dL_pay_16
    · refine vx_catch (E := exN 2) (name := exN 2) hown [⟨0, 10, 13, 13⟩] ⟨0, 10, 17, 25⟩ [] (htab.trans rfl) (fun z hz => by rw [List.mem_singleton.mp hz]; exact Or.inr ⟨by decide, exN 1, hts _ q_465, hN.1⟩) (by decide) (by decide) (hts _ q_567) (va_Nw.use rfl (hK.2 _ q_582)) h1 h2 h3 ?_
      refine lv_astore (lv' := [(4, .ref q9), (0, .ref (ad 0 0)), (1, .int p1), (2, .int p2), (3, .ref o)]) hx hb dL_pay_17 hl (by decide) rfl (fun ls hl => ?_)
      refine lv_iconst (v := 2) hx hb dL_pay_19 (by decide) ?_
      exact rett_i hC ⟨rfl, rfl⟩ hka hLX hR hS hcap hsap dL_pay_20
  · subst eu
    refine lv_i2l hx hb dL_pay_8 rfl ?_
    refine ww_last hx hb hK.1 hR hS 1 (f := 20) (j := 0) (cvT_o _) (cA := dA 1) (n := 1) (fa := v) rfl rfl (show ¬ ((0 : Int32) < 0 ∨ 1 ≤ (0 : Int32).toNatClampNeg) by decide) dL_pay_9 (fun H locs hR hS => ?_)
    have hR := HT_put _ hR
    refine lv_goto (tgt := 21) hx hb dL_pay_10 (by decide) ?_
    refine lv_iconst (v := 0) hx hb dL_pay_21 (by decide) ?_
    exact rett_i hC ⟨rfl, rfl⟩ hka hLX hR hS hcap hsap dL_pay_22
theorem mL_bring (l : Launch) (hst : l.stackTraces = false) (D : va_G) (dA : Nat → ClassId) (ad : Nat → Nat → Nat) (o : Nat) (σ : St) (v : Nat → Int64) (sz x mi : Nat) (p1 : Int32) (p2 : Int32) (p3 : Int32) (u : XO (Int32 × St)) (mc ms : Nat) (hf : fX5_bring σ p1 p2 p3 = some (u, mc, ms)) (hk : ∀ k σ', u = .inl (k, σ') → k = 1 ∨ k = 2) : Met l yL_bring (WSh yL_bring cL_bring 6 (some .int) [(0, 12, 15, 13), (0, 12, 19, 25)]) ({ frames := 9, cells := mc, slots := ms, locals := 169 } : Room) (va_Pc [.ref (ad 0 0), .int p1, .int p2, .int p3, .ref o] (PreT D dA ad o σ v x mi sz)) (QT xcat (fun r => r.toInt64) u D dA [] ad o σ v x (WT ad o σ sz)) mc ms (WT ad o σ sz) := by
  refine meth_of (by decide) (Nat.le_of_ble_eq_true rfl) ?_
  intro p e s m below meth c ls hC htab hB hl
  obtain ⟨rfl, hR, hK, hX, hLX, hN⟩ := hB
  have hA : ∀ q : Nat, s.heap.size ≤ q → WT ad o σ s.heap.size q := fun q h => Or.inr h
  have hR : HT D dA (WT ad o σ s.heap.size) ad o σ v s.heap := WW_fit hR (fun f i h => WA_in h)
  have hS : va_S (WT ad o σ s.heap.size) s.heap s.heap [] := va_S.rf
  generalize WT ad o σ s.heap.size = A0 at hA hR hS hX ⊢
  have hC : CTX p s m _ meth c cL_bring 6 RL (some .int) := hC
  obtain ⟨hx, hb, hml, hown, hts, hr, hlk⟩ := id hC
  have hl : lv_has ls 6 [(0, .ref (ad 0 0)), (1, .int p1), (2, .int p2), (3, .int p3), (4, .ref o)] := hl
  have hcap : 0 + mc ≤ mc := Nat.le_of_eq (Nat.zero_add _)
  have hsap : 0 + ms ≤ ms := Nat.le_of_eq (Nat.zero_add _)
  refine lv_aload hx hb dL_bring_0 (lv_at hl 4 rfl) ?_
  refine lv_iconst (v := 0) hx hb dL_bring_2 (by decide) ?_
  refine lv_aload_n hx hb dL_bring_3 rfl (lv_at hl 0 rfl) ?_
  refine lv_iload_n hx hb dL_bring_4 rfl (lv_at hl 1 rfl) ?_
  refine lv_iload_n hx hb dL_bring_5 rfl (lv_at hl 2 rfl) ?_
  refine lv_iload_n hx hb dL_bring_6 rfl (lv_at hl 3 rfl) ?_
  refine kct_i (vx_runV (As := [.int p1, .int p2, .int p3]) (rest := [.int 0, .ref o]) ⟨hx, hb, hml, hown, hts⟩ (mX5_bring l hst D dA ad σ _ x mi p1 p2 p3 u mc ms hf) (cwV 3 hts gL_27 rfl rfl rfl (by decide +kernel) ⟨Nat.le_of_ble_eq_true rfl, Nat.le_of_ble_eq_true rfl⟩) (preVT_of hA hR hS hK hX hLX _) rfl rfl hl.1 rfl (lv_room (Nat.le_of_ble_eq_true rfl)) dL_bring_7 ⟨hcap, hsap⟩) hA hR hS (fun k σ' ad' H locs ce q9 eu hka hLX hR hS h1 h2 h3 => ?_) (fun r σ' ad' H locs eu hka hLX hR hS => ?_)
  · have hk1 := hk _ _ eu
    subst eu
    rcases hk1 with rfl | rfl
    · refine vx_catch (E := exN 1) (name := exN 1) hown [] ⟨0, 12, 15, 13⟩ [⟨0, 12, 19, 25⟩] (htab.trans rfl) (fun z hz => nomatch hz) (by decide) (by decide) (hts _ q_465) (va_Nw.use rfl (hK.2 _ q_478)) h1 h2 h3 ?_
      refine lv_astore (lv' := [(5, .ref q9), (0, .ref (ad 0 0)), (1, .int p1), (2, .int p2), (3, .int p3), (4, .ref o)]) hx hb dL_bring_15 hl (by decide) rfl (fun ls hl => ?_)
      refine lv_iconst (v := 1) hx hb dL_bring_17 (by decide) ?_
      exact rett_i hC ⟨rfl, rfl⟩ hka hLX hR hS hcap hsap dL_bring_18
    · refine vx_catch (E := exN 2) (name := exN 2) hown [⟨0, 12, 15, 13⟩] ⟨0, 12, 19, 25⟩ [] (htab.trans rfl) (fun z hz => by rw [List.mem_singleton.mp hz]; exact Or.inr ⟨by decide, exN 1, hts _ q_465, hN.1⟩) (by decide) (by decide) (hts _ q_567) (va_Nw.use rfl (hK.2 _ q_582)) h1 h2 h3 ?_
      refine lv_astore (lv' := [(5, .ref q9), (0, .ref (ad 0 0)), (1, .int p1), (2, .int p2), (3, .int p3), (4, .ref o)]) hx hb dL_bring_19 hl (by decide) rfl (fun ls hl => ?_)
      refine lv_iconst (v := 2) hx hb dL_bring_21 (by decide) ?_
      exact rett_i hC ⟨rfl, rfl⟩ hka hLX hR hS hcap hsap dL_bring_22
  · subst eu
    refine lv_i2l hx hb dL_bring_10 rfl ?_
    refine ww_last hx hb hK.1 hR hS 1 (f := 20) (j := 0) (cvT_o _) (cA := dA 1) (n := 1) (fa := v) rfl rfl (show ¬ ((0 : Int32) < 0 ∨ 1 ≤ (0 : Int32).toNatClampNeg) by decide) dL_bring_11 (fun H locs hR hS => ?_)
    have hR := HT_put _ hR
    refine lv_goto (tgt := 23) hx hb dL_bring_12 (by decide) ?_
    refine lv_iconst (v := 0) hx hb dL_bring_23 (by decide) ?_
    exact rett_i hC ⟨rfl, rfl⟩ hka hLX hR hS hcap hsap dL_bring_24
theorem mL_contribute (l : Launch) (hst : l.stackTraces = false) (D : va_G) (dA : Nat → ClassId) (ad : Nat → Nat → Nat) (o : Nat) (σ : St) (v : Nat → Int64) (sz x mi : Nat) (p1 : Int32) (p2 : Int32) (u : XO (Int32 × St)) (mc ms : Nat) (hf : fX5_contribute σ p1 p2 = some (u, mc, ms)) (hk : ∀ k σ', u = .inl (k, σ') → k = 1 ∨ k = 2) : Met l yL_contribute (WSh yL_contribute cL_contribute 5 (some .int) [(0, 10, 13, 13), (0, 10, 17, 25)]) ({ frames := 9, cells := mc, slots := ms, locals := 155 } : Room) (va_Pc [.ref (ad 0 0), .int p1, .int p2, .ref o] (PreT D dA ad o σ v x mi sz)) (QT xcat (fun r => r.toInt64) u D dA [] ad o σ v x (WT ad o σ sz)) mc ms (WT ad o σ sz) := by
  refine meth_of (by decide) (Nat.le_of_ble_eq_true rfl) ?_
  intro p e s m below meth c ls hC htab hB hl
  obtain ⟨rfl, hR, hK, hX, hLX, hN⟩ := hB
  have hA : ∀ q : Nat, s.heap.size ≤ q → WT ad o σ s.heap.size q := fun q h => Or.inr h
  have hR : HT D dA (WT ad o σ s.heap.size) ad o σ v s.heap := WW_fit hR (fun f i h => WA_in h)
  have hS : va_S (WT ad o σ s.heap.size) s.heap s.heap [] := va_S.rf
  generalize WT ad o σ s.heap.size = A0 at hA hR hS hX ⊢
  have hC : CTX p s m _ meth c cL_contribute 5 RL (some .int) := hC
  obtain ⟨hx, hb, hml, hown, hts, hr, hlk⟩ := id hC
  have hl : lv_has ls 5 [(0, .ref (ad 0 0)), (1, .int p1), (2, .int p2), (3, .ref o)] := hl
  have hcap : 0 + mc ≤ mc := Nat.le_of_eq (Nat.zero_add _)
  have hsap : 0 + ms ≤ ms := Nat.le_of_eq (Nat.zero_add _)
  refine lv_aload_n hx hb dL_contribute_0 rfl (lv_at hl 3 rfl) ?_
  refine lv_iconst (v := 0) hx hb dL_contribute_1 (by decide) ?_
  refine lv_aload_n hx hb dL_contribute_2 rfl (lv_at hl 0 rfl) ?_
  refine lv_iload_n hx hb dL_contribute_3 rfl (lv_at hl 1 rfl) ?_
  refine lv_iload_n hx hb dL_contribute_4 rfl (lv_at hl 2 rfl) ?_
  refine kct_i (vx_runV (As := [.int p1, .int p2]) (rest := [.int 0, .ref o]) ⟨hx, hb, hml, hown, hts⟩ (mX5_contribute l hst D dA ad σ _ x mi p1 p2 u mc ms hf) (cwV 2 hts gL_30 rfl rfl rfl (by decide +kernel) ⟨Nat.le_of_ble_eq_true rfl, Nat.le_of_ble_eq_true rfl⟩) (preVT_of hA hR hS hK hX hLX _) rfl rfl hl.1 rfl (lv_room (Nat.le_of_ble_eq_true rfl)) dL_contribute_5 ⟨hcap, hsap⟩) hA hR hS (fun k σ' ad' H locs ce q9 eu hka hLX hR hS h1 h2 h3 => ?_) (fun r σ' ad' H locs eu hka hLX hR hS => ?_)
  · have hk1 := hk _ _ eu
    subst eu
    rcases hk1 with rfl | rfl
    · refine vx_catch (E := exN 1) (name := exN 1) hown [] ⟨0, 10, 13, 13⟩ [⟨0, 10, 17, 25⟩] (htab.trans rfl) (fun z hz => nomatch hz) (by decide) (by decide) (hts _ q_465) (va_Nw.use rfl (hK.2 _ q_478)) h1 h2 h3 ?_
      refine lv_astore (lv' := [(4, .ref q9), (0, .ref (ad 0 0)), (1, .int p1), (2, .int p2), (3, .ref o)]) hx hb dL_contribute_13 hl (by decide) rfl (fun ls hl => ?_)
      refine lv_iconst (v := 1) hx hb dL_contribute_15 (by decide) ?_
      exact rett_i hC ⟨rfl, rfl⟩ hka hLX hR hS hcap hsap dL_contribute_16
    · refine vx_catch (E := exN 2) (name := exN 2) hown [⟨0, 10, 13, 13⟩] ⟨0, 10, 17, 25⟩ [] (htab.trans rfl) (fun z hz => by rw [List.mem_singleton.mp hz]; exact Or.inr ⟨by decide, exN 1, hts _ q_465, hN.1⟩) (by decide) (by decide) (hts _ q_567) (va_Nw.use rfl (hK.2 _ q_582)) h1 h2 h3 ?_
      refine lv_astore (lv' := [(4, .ref q9), (0, .ref (ad 0 0)), (1, .int p1), (2, .int p2), (3, .ref o)]) hx hb dL_contribute_17 hl (by decide) rfl (fun ls hl => ?_)
      refine lv_iconst (v := 2) hx hb dL_contribute_19 (by decide) ?_
      exact rett_i hC ⟨rfl, rfl⟩ hka hLX hR hS hcap hsap dL_contribute_20
  · subst eu
    refine lv_i2l hx hb dL_contribute_8 rfl ?_
    refine ww_last hx hb hK.1 hR hS 1 (f := 20) (j := 0) (cvT_o _) (cA := dA 1) (n := 1) (fa := v) rfl rfl (show ¬ ((0 : Int32) < 0 ∨ 1 ≤ (0 : Int32).toNatClampNeg) by decide) dL_contribute_9 (fun H locs hR hS => ?_)
    have hR := HT_put _ hR
    refine lv_goto (tgt := 21) hx hb dL_contribute_10 (by decide) ?_
    refine lv_iconst (v := 0) hx hb dL_contribute_21 (by decide) ?_
    exact rett_i hC ⟨rfl, rfl⟩ hka hLX hR hS hcap hsap dL_contribute_22
theorem mL_place (l : Launch) (hst : l.stackTraces = false) (D : va_G) (dA : Nat → ClassId) (ad : Nat → Nat → Nat) (o : Nat) (σ : St) (v : Nat → Int64) (sz x mi : Nat) (p1 : Int32) (p2 : Int32) (p3 : Int32) (p4 : Int32) (p5 : Int32) (u : XO (Int32 × St)) (mc ms : Nat) (hf : fX5_place σ p1 p2 p3 p4 p5 = some (u, mc, ms)) (hk : ∀ k σ', u = .inl (k, σ') → k = 1 ∨ k = 2) : Met l yL_place (WSh yL_place cL_place 8 (some .int) [(0, 16, 19, 13), (0, 16, 23, 25)]) ({ frames := 11, cells := mc, slots := ms, locals := 276 } : Room) (va_Pc [.ref (ad 0 0), .int p1, .int p2, .int p3, .int p4, .int p5, .ref o] (PreT D dA ad o σ v x mi sz)) (QT xcat (fun r => r.toInt64) u D dA [13, 15] ad o σ v x (WT ad o σ sz)) mc ms (WT ad o σ sz) := by
  refine meth_of (by decide) (Nat.le_of_ble_eq_true rfl) ?_
  intro p e s m below meth c ls hC htab hB hl
  obtain ⟨rfl, hR, hK, hX, hLX, hN⟩ := hB
  have hA : ∀ q : Nat, s.heap.size ≤ q → WT ad o σ s.heap.size q := fun q h => Or.inr h
  have hR : HT D dA (WT ad o σ s.heap.size) ad o σ v s.heap := WW_fit hR (fun f i h => WA_in h)
  have hS : va_S (WT ad o σ s.heap.size) s.heap s.heap [] := va_S.rf
  generalize WT ad o σ s.heap.size = A0 at hA hR hS hX ⊢
  have hC : CTX p s m _ meth c cL_place 8 RL (some .int) := hC
  obtain ⟨hx, hb, hml, hown, hts, hr, hlk⟩ := id hC
  have hl : lv_has ls 8 [(0, .ref (ad 0 0)), (1, .int p1), (2, .int p2), (3, .int p3), (4, .int p4), (5, .int p5), (6, .ref o)] := hl
  have hcap : 0 + mc ≤ mc := Nat.le_of_eq (Nat.zero_add _)
  have hsap : 0 + ms ≤ ms := Nat.le_of_eq (Nat.zero_add _)
  refine lv_aload hx hb dL_place_0 (lv_at hl 6 rfl) ?_
  refine lv_iconst (v := 0) hx hb dL_place_2 (by decide) ?_
  refine lv_aload_n hx hb dL_place_3 rfl (lv_at hl 0 rfl) ?_
  refine lv_iload_n hx hb dL_place_4 rfl (lv_at hl 1 rfl) ?_
  refine lv_iload_n hx hb dL_place_5 rfl (lv_at hl 2 rfl) ?_
  refine lv_iload_n hx hb dL_place_6 rfl (lv_at hl 3 rfl) ?_
  refine lv_iload hx hb dL_place_7 (lv_at hl 4 rfl) ?_
  refine lv_iload hx hb dL_place_9 (lv_at hl 5 rfl) ?_
  refine kct_i (vx_runV (As := [.int p1, .int p2, .int p3, .int p4, .int p5]) (rest := [.int 0, .ref o]) ⟨hx, hb, hml, hown, hts⟩ (mX5_place l hst D dA ad σ _ x mi p1 p2 p3 p4 p5 u mc ms hf) (cwV 5 hts gL_33 rfl rfl rfl (by decide +kernel) ⟨Nat.le_of_ble_eq_true rfl, Nat.le_of_ble_eq_true rfl⟩) (preVT_of hA hR hS hK hX hLX _) rfl rfl hl.1 rfl (lv_room (Nat.le_of_ble_eq_true rfl)) dL_place_11 ⟨hcap, hsap⟩) hA hR hS (fun k σ' ad' H locs ce q9 eu hka hLX hR hS h1 h2 h3 => ?_) (fun r σ' ad' H locs eu hka hLX hR hS => ?_)
  · have hk1 := hk _ _ eu
    subst eu
    rcases hk1 with rfl | rfl
    · refine vx_catch (E := exN 1) (name := exN 1) hown [] ⟨0, 16, 19, 13⟩ [⟨0, 16, 23, 25⟩] (htab.trans rfl) (fun z hz => nomatch hz) (by decide) (by decide) (hts _ q_465) (va_Nw.use rfl (hK.2 _ q_478)) h1 h2 h3 ?_
      refine lv_astore (lv' := [(7, .ref q9), (0, .ref (ad 0 0)), (1, .int p1), (2, .int p2), (3, .int p3), (4, .int p4), (5, .int p5), (6, .ref o)]) hx hb dL_place_19 hl (by decide) rfl (fun ls hl => ?_)
      refine lv_iconst (v := 1) hx hb dL_place_21 (by decide) ?_
      exact rett_i hC ⟨rfl, rfl⟩ hka hLX hR hS hcap hsap dL_place_22
    · refine vx_catch (E := exN 2) (name := exN 2) hown [⟨0, 16, 19, 13⟩] ⟨0, 16, 23, 25⟩ [] (htab.trans rfl) (fun z hz => by rw [List.mem_singleton.mp hz]; exact Or.inr ⟨by decide, exN 1, hts _ q_465, hN.1⟩) (by decide) (by decide) (hts _ q_567) (va_Nw.use rfl (hK.2 _ q_582)) h1 h2 h3 ?_
      refine lv_astore (lv' := [(7, .ref q9), (0, .ref (ad 0 0)), (1, .int p1), (2, .int p2), (3, .int p3), (4, .int p4), (5, .int p5), (6, .ref o)]) hx hb dL_place_23 hl (by decide) rfl (fun ls hl => ?_)
      refine lv_iconst (v := 2) hx hb dL_place_25 (by decide) ?_
      exact rett_i hC ⟨rfl, rfl⟩ hka hLX hR hS hcap hsap dL_place_26
  · subst eu
    refine lv_i2l hx hb dL_place_14 rfl ?_
    refine ww_last hx hb hK.1 hR hS 1 (f := 20) (j := 0) (cvT_o _) (cA := dA 1) (n := 1) (fa := v) rfl rfl (show ¬ ((0 : Int32) < 0 ∨ 1 ≤ (0 : Int32).toNatClampNeg) by decide) dL_place_15 (fun H locs hR hS => ?_)
    have hR := HT_put _ hR
    refine lv_goto (tgt := 27) hx hb dL_place_16 (by decide) ?_
    refine lv_iconst (v := 0) hx hb dL_place_27 (by decide) ?_
    exact rett_i hC ⟨rfl, rfl⟩ hka hLX hR hS hcap hsap dL_place_28
theorem mL_cancel (l : Launch) (hst : l.stackTraces = false) (D : va_G) (dA : Nat → ClassId) (ad : Nat → Nat → Nat) (o : Nat) (σ : St) (v : Nat → Int64) (sz x mi : Nat) (p1 : Int32) (u : XO (Int32 × St)) (mc ms : Nat) (hf : fX5_cancel σ p1 = some (u, mc, ms)) (hk : ∀ k σ', u = .inl (k, σ') → k = 3 ∨ k = 2) : Met l yL_cancel (WSh yL_cancel cL_cancel 4 (some .int) [(0, 9, 12, 41), (0, 9, 15, 25)]) ({ frames := 8, cells := mc, slots := ms, locals := 134 } : Room) (va_Pc [.ref (ad 0 0), .int p1, .ref o] (PreT D dA ad o σ v x mi sz)) (QT xcat (fun r => r.toInt64) u D dA [] ad o σ v x (WT ad o σ sz)) mc ms (WT ad o σ sz) := by
  refine meth_of (by decide) (Nat.le_of_ble_eq_true rfl) ?_
  intro p e s m below meth c ls hC htab hB hl
  obtain ⟨rfl, hR, hK, hX, hLX, hN⟩ := hB
  have hA : ∀ q : Nat, s.heap.size ≤ q → WT ad o σ s.heap.size q := fun q h => Or.inr h
  have hR : HT D dA (WT ad o σ s.heap.size) ad o σ v s.heap := WW_fit hR (fun f i h => WA_in h)
  have hS : va_S (WT ad o σ s.heap.size) s.heap s.heap [] := va_S.rf
  generalize WT ad o σ s.heap.size = A0 at hA hR hS hX ⊢
  have hC : CTX p s m _ meth c cL_cancel 4 RL (some .int) := hC
  obtain ⟨hx, hb, hml, hown, hts, hr, hlk⟩ := id hC
  have hl : lv_has ls 4 [(0, .ref (ad 0 0)), (1, .int p1), (2, .ref o)] := hl
  have hcap : 0 + mc ≤ mc := Nat.le_of_eq (Nat.zero_add _)
  have hsap : 0 + ms ≤ ms := Nat.le_of_eq (Nat.zero_add _)
  refine lv_aload_n hx hb dL_cancel_0 rfl (lv_at hl 2 rfl) ?_
  refine lv_iconst (v := 0) hx hb dL_cancel_1 (by decide) ?_
  refine lv_aload_n hx hb dL_cancel_2 rfl (lv_at hl 0 rfl) ?_
  refine lv_iload_n hx hb dL_cancel_3 rfl (lv_at hl 1 rfl) ?_
  refine kct_i (vx_runV (As := [.int p1]) (rest := [.int 0, .ref o]) ⟨hx, hb, hml, hown, hts⟩ (mX5_cancel l hst D dA ad σ _ x mi p1 u mc ms hf) (cwV 1 hts gL_37 rfl rfl rfl (by decide +kernel) ⟨Nat.le_of_ble_eq_true rfl, Nat.le_of_ble_eq_true rfl⟩) (preVT_of hA hR hS hK hX hLX _) rfl rfl hl.1 rfl (lv_room (Nat.le_of_ble_eq_true rfl)) dL_cancel_4 ⟨hcap, hsap⟩) hA hR hS (fun k σ' ad' H locs ce q9 eu hka hLX hR hS h1 h2 h3 => ?_) (fun r σ' ad' H locs eu hka hLX hR hS => ?_)
  · have hk1 := hk _ _ eu
    subst eu
    rcases hk1 with rfl | rfl
    · refine vx_catch (E := exN 3) (name := exN 3) hown [] ⟨0, 9, 12, 41⟩ [⟨0, 9, 15, 25⟩] (htab.trans rfl) (fun z hz => nomatch hz) (by decide) (by decide) (hts _ q_656) (va_Nw.use rfl (hK.2 _ q_667)) h1 h2 h3 ?_
      refine lv_astore_n (lv' := [(3, .ref q9), (0, .ref (ad 0 0)), (1, .int p1), (2, .ref o)]) hx hb dL_cancel_12 rfl hl (by decide) rfl (fun ls hl => ?_)
      refine lv_iconst (v := 1) hx hb dL_cancel_13 (by decide) ?_
      exact rett_i hC ⟨rfl, rfl⟩ hka hLX hR hS hcap hsap dL_cancel_14
    · refine vx_catch (E := exN 2) (name := exN 2) hown [⟨0, 9, 12, 41⟩] ⟨0, 9, 15, 25⟩ [] (htab.trans rfl) (fun z hz => by rw [List.mem_singleton.mp hz]; exact Or.inr ⟨by decide, exN 3, hts _ q_656, hN.2.1⟩) (by decide) (by decide) (hts _ q_567) (va_Nw.use rfl (hK.2 _ q_582)) h1 h2 h3 ?_
      refine lv_astore_n (lv' := [(3, .ref q9), (0, .ref (ad 0 0)), (1, .int p1), (2, .ref o)]) hx hb dL_cancel_15 rfl hl (by decide) rfl (fun ls hl => ?_)
      refine lv_iconst (v := 2) hx hb dL_cancel_16 (by decide) ?_
      exact rett_i hC ⟨rfl, rfl⟩ hka hLX hR hS hcap hsap dL_cancel_17
  · subst eu
    refine lv_i2l hx hb dL_cancel_7 rfl ?_
    refine ww_last hx hb hK.1 hR hS 1 (f := 20) (j := 0) (cvT_o _) (cA := dA 1) (n := 1) (fa := v) rfl rfl (show ¬ ((0 : Int32) < 0 ∨ 1 ≤ (0 : Int32).toNatClampNeg) by decide) dL_cancel_8 (fun H locs hR hS => ?_)
    have hR := HT_put _ hR
    refine lv_goto (tgt := 18) hx hb dL_cancel_9 (by decide) ?_
    refine lv_iconst (v := 0) hx hb dL_cancel_18 (by decide) ?_
    exact rett_i hC ⟨rfl, rfl⟩ hka hLX hR hS hcap hsap dL_cancel_19
theorem mL_halt (l : Launch) (hst : l.stackTraces = false) (D : va_G) (dA : Nat → ClassId) (ad : Nat → Nat → Nat) (o : Nat) (σ : St) (v : Nat → Int64) (sz x mi : Nat) (p1 : Int32) (p2 : Int32) (u : XO (Int32 × St)) (mc ms : Nat) (hf : fX5_halt σ p1 p2 = some (u, mc, ms)) (hk : ∀ k σ', u = .inl (k, σ') → k = 1) : Met l yL_halt (WSh yL_halt cL_halt 5 (some .int) [(0, 10, 13, 13)]) ({ frames := 9, cells := mc, slots := ms, locals := 154 } : Room) (va_Pc [.ref (ad 0 0), .int p1, .int p2, .ref o] (PreT D dA ad o σ v x mi sz)) (QT xcat (fun r => r.toInt64) u D dA [] ad o σ v x (WT ad o σ sz)) mc ms (WT ad o σ sz) := by
  refine meth_of (by decide) (Nat.le_of_ble_eq_true rfl) ?_
  intro p e s m below meth c ls hC htab hB hl
  obtain ⟨rfl, hR, hK, hX, hLX, hN⟩ := hB
  have hA : ∀ q : Nat, s.heap.size ≤ q → WT ad o σ s.heap.size q := fun q h => Or.inr h
  have hR : HT D dA (WT ad o σ s.heap.size) ad o σ v s.heap := WW_fit hR (fun f i h => WA_in h)
  have hS : va_S (WT ad o σ s.heap.size) s.heap s.heap [] := va_S.rf
  generalize WT ad o σ s.heap.size = A0 at hA hR hS hX ⊢
  have hC : CTX p s m _ meth c cL_halt 5 RL (some .int) := hC
  obtain ⟨hx, hb, hml, hown, hts, hr, hlk⟩ := id hC
  have hl : lv_has ls 5 [(0, .ref (ad 0 0)), (1, .int p1), (2, .int p2), (3, .ref o)] := hl
  have hcap : 0 + mc ≤ mc := Nat.le_of_eq (Nat.zero_add _)
  have hsap : 0 + ms ≤ ms := Nat.le_of_eq (Nat.zero_add _)
  refine lv_aload_n hx hb dL_halt_0 rfl (lv_at hl 3 rfl) ?_
  refine lv_iconst (v := 0) hx hb dL_halt_1 (by decide) ?_
  refine lv_aload_n hx hb dL_halt_2 rfl (lv_at hl 0 rfl) ?_
  refine lv_iload_n hx hb dL_halt_3 rfl (lv_at hl 1 rfl) ?_
  refine lv_iload_n hx hb dL_halt_4 rfl (lv_at hl 2 rfl) ?_
  refine kct_i (vx_runV (As := [.int p1, .int p2]) (rest := [.int 0, .ref o]) ⟨hx, hb, hml, hown, hts⟩ (mX5_halt l hst D dA ad σ _ x mi p1 p2 u mc ms hf) (cwV 2 hts gL_43 rfl rfl rfl (by decide +kernel) ⟨Nat.le_of_ble_eq_true rfl, Nat.le_of_ble_eq_true rfl⟩) (preVT_of hA hR hS hK hX hLX _) rfl rfl hl.1 rfl (lv_room (Nat.le_of_ble_eq_true rfl)) dL_halt_5 ⟨hcap, hsap⟩) hA hR hS (fun k σ' ad' H locs ce q9 eu hka hLX hR hS h1 h2 h3 => ?_) (fun r σ' ad' H locs eu hka hLX hR hS => ?_)
  · have hk1 := hk _ _ eu
    subst eu
    subst hk1
    refine vx_catch (E := exN 1) (name := exN 1) hown [] ⟨0, 10, 13, 13⟩ [] (htab.trans rfl) (fun z hz => nomatch hz) (by decide) (by decide) (hts _ q_465) (va_Nw.use rfl (hK.2 _ q_478)) h1 h2 h3 ?_
    refine lv_astore (lv' := [(4, .ref q9), (0, .ref (ad 0 0)), (1, .int p1), (2, .int p2), (3, .ref o)]) hx hb dL_halt_13 hl (by decide) rfl (fun ls hl => ?_)
    refine lv_iconst (v := 1) hx hb dL_halt_15 (by decide) ?_
    exact rett_i hC ⟨rfl, rfl⟩ hka hLX hR hS hcap hsap dL_halt_16
  · subst eu
    refine lv_i2l hx hb dL_halt_8 rfl ?_
    refine ww_last hx hb hK.1 hR hS 1 (f := 20) (j := 0) (cvT_o _) (cA := dA 1) (n := 1) (fa := v) rfl rfl (show ¬ ((0 : Int32) < 0 ∨ 1 ≤ (0 : Int32).toNatClampNeg) by decide) dL_halt_9 (fun H locs hR hS => ?_)
    have hR := HT_put _ hR
    refine lv_goto (tgt := 17) hx hb dL_halt_10 (by decide) ?_
    refine lv_iconst (v := 0) hx hb dL_halt_17 (by decide) ?_
    exact rett_i hC ⟨rfl, rfl⟩ hka hLX hR hS hcap hsap dL_halt_18
theorem mL_left (l : Launch) (hst : l.stackTraces = false) (D : va_G) (dA : Nat → ClassId) (ad : Nat → Nat → Nat) (o : Nat) (σ : St) (v : Nat → Int64) (sz x mi : Nat) (p1 : Int32) (u : XO (Int32 × St)) (mc ms : Nat) (hf : fX5_left σ p1 = some (u, mc, ms)) (hk : ∀ k σ', u = .inl (k, σ') → k = 3) : Met l yL_left (WSh yL_left cL_left 4 (some .int) [(0, 9, 12, 41)]) ({ frames := 8, cells := mc, slots := ms, locals := 132 } : Room) (va_Pc [.ref (ad 0 0), .int p1, .ref o] (PreT D dA ad o σ v x mi sz)) (QT xcat (fun r => r.toInt64) u D dA [] ad o σ v x (WT ad o σ sz)) mc ms (WT ad o σ sz) := by
  refine meth_of (by decide) (Nat.le_of_ble_eq_true rfl) ?_
  intro p e s m below meth c ls hC htab hB hl
  obtain ⟨rfl, hR, hK, hX, hLX, hN⟩ := hB
  have hA : ∀ q : Nat, s.heap.size ≤ q → WT ad o σ s.heap.size q := fun q h => Or.inr h
  have hR : HT D dA (WT ad o σ s.heap.size) ad o σ v s.heap := WW_fit hR (fun f i h => WA_in h)
  have hS : va_S (WT ad o σ s.heap.size) s.heap s.heap [] := va_S.rf
  generalize WT ad o σ s.heap.size = A0 at hA hR hS hX ⊢
  have hC : CTX p s m _ meth c cL_left 4 RL (some .int) := hC
  obtain ⟨hx, hb, hml, hown, hts, hr, hlk⟩ := id hC
  have hl : lv_has ls 4 [(0, .ref (ad 0 0)), (1, .int p1), (2, .ref o)] := hl
  have hcap : 0 + mc ≤ mc := Nat.le_of_eq (Nat.zero_add _)
  have hsap : 0 + ms ≤ ms := Nat.le_of_eq (Nat.zero_add _)
  refine lv_aload_n hx hb dL_left_0 rfl (lv_at hl 2 rfl) ?_
  refine lv_iconst (v := 0) hx hb dL_left_1 (by decide) ?_
  refine lv_aload_n hx hb dL_left_2 rfl (lv_at hl 0 rfl) ?_
  refine lv_iload_n hx hb dL_left_3 rfl (lv_at hl 1 rfl) ?_
  refine kct_i (vx_runV (As := [.int p1]) (rest := [.int 0, .ref o]) ⟨hx, hb, hml, hown, hts⟩ (mX5_left l hst D dA ad σ _ x mi p1 u mc ms hf) (cwV 1 hts gL_47 rfl rfl rfl (by decide +kernel) ⟨Nat.le_of_ble_eq_true rfl, Nat.le_of_ble_eq_true rfl⟩) (preVT_of hA hR hS hK hX hLX _) rfl rfl hl.1 rfl (lv_room (Nat.le_of_ble_eq_true rfl)) dL_left_4 ⟨hcap, hsap⟩) hA hR hS (fun k σ' ad' H locs ce q9 eu hka hLX hR hS h1 h2 h3 => ?_) (fun r σ' ad' H locs eu hka hLX hR hS => ?_)
  · have hk1 := hk _ _ eu
    subst eu
    subst hk1
    refine vx_catch (E := exN 3) (name := exN 3) hown [] ⟨0, 9, 12, 41⟩ [] (htab.trans rfl) (fun z hz => nomatch hz) (by decide) (by decide) (hts _ q_656) (va_Nw.use rfl (hK.2 _ q_667)) h1 h2 h3 ?_
    refine lv_astore_n (lv' := [(3, .ref q9), (0, .ref (ad 0 0)), (1, .int p1), (2, .ref o)]) hx hb dL_left_12 rfl hl (by decide) rfl (fun ls hl => ?_)
    refine lv_iconst (v := 1) hx hb dL_left_13 (by decide) ?_
    exact rett_i hC ⟨rfl, rfl⟩ hka hLX hR hS hcap hsap dL_left_14
  · subst eu
    refine lv_i2l hx hb dL_left_7 rfl ?_
    refine ww_last hx hb hK.1 hR hS 1 (f := 20) (j := 0) (cvT_o _) (cA := dA 1) (n := 1) (fa := v) rfl rfl (show ¬ ((0 : Int32) < 0 ∨ 1 ≤ (0 : Int32).toNatClampNeg) by decide) dL_left_8 (fun H locs hR hS => ?_)
    have hR := HT_put _ hR
    refine lv_goto (tgt := 15) hx hb dL_left_9 (by decide) ?_
    refine lv_iconst (v := 0) hx hb dL_left_15 (by decide) ?_
    exact rett_i hC ⟨rfl, rfl⟩ hka hLX hR hS hcap hsap dL_left_16
theorem mL_best (l : Launch) (hst : l.stackTraces = false) (D : va_G) (dA : Nat → ClassId) (ad : Nat → Nat → Nat) (o : Nat) (σ : St) (v : Nat → Int64) (sz x mi : Nat) (p1 : Int32) (p2 : Int32) (u : XO (Int32 × St)) (mc ms : Nat) (hf : fX5_best σ p1 p2 = some (u, mc, ms)) (hk : ∀ k σ', u = .inl (k, σ') → k = 1 ∨ k = 4) : Met l yL_best (WSh yL_best cL_best 5 (some .int) [(0, 10, 13, 13), (0, 10, 17, 53)]) ({ frames := 9, cells := mc, slots := ms, locals := 155 } : Room) (va_Pc [.ref (ad 0 0), .int p1, .int p2, .ref o] (PreT D dA ad o σ v x mi sz)) (QT xcat (fun r => r.toInt64) u D dA [] ad o σ v x (WT ad o σ sz)) mc ms (WT ad o σ sz) := by
  refine meth_of (by decide) (Nat.le_of_ble_eq_true rfl) ?_
  intro p e s m below meth c ls hC htab hB hl
  obtain ⟨rfl, hR, hK, hX, hLX, hN⟩ := hB
  have hA : ∀ q : Nat, s.heap.size ≤ q → WT ad o σ s.heap.size q := fun q h => Or.inr h
  have hR : HT D dA (WT ad o σ s.heap.size) ad o σ v s.heap := WW_fit hR (fun f i h => WA_in h)
  have hS : va_S (WT ad o σ s.heap.size) s.heap s.heap [] := va_S.rf
  generalize WT ad o σ s.heap.size = A0 at hA hR hS hX ⊢
  have hC : CTX p s m _ meth c cL_best 5 RL (some .int) := hC
  obtain ⟨hx, hb, hml, hown, hts, hr, hlk⟩ := id hC
  have hl : lv_has ls 5 [(0, .ref (ad 0 0)), (1, .int p1), (2, .int p2), (3, .ref o)] := hl
  have hcap : 0 + mc ≤ mc := Nat.le_of_eq (Nat.zero_add _)
  have hsap : 0 + ms ≤ ms := Nat.le_of_eq (Nat.zero_add _)
  refine lv_aload_n hx hb dL_best_0 rfl (lv_at hl 3 rfl) ?_
  refine lv_iconst (v := 0) hx hb dL_best_1 (by decide) ?_
  refine lv_aload_n hx hb dL_best_2 rfl (lv_at hl 0 rfl) ?_
  refine lv_iload_n hx hb dL_best_3 rfl (lv_at hl 1 rfl) ?_
  refine lv_iload_n hx hb dL_best_4 rfl (lv_at hl 2 rfl) ?_
  refine kct_i (vx_runV (As := [.int p1, .int p2]) (rest := [.int 0, .ref o]) ⟨hx, hb, hml, hown, hts⟩ (mX5_best l hst D dA ad σ _ x mi p1 p2 u mc ms hf) (cwV 2 hts gL_50 rfl rfl rfl (by decide +kernel) ⟨Nat.le_of_ble_eq_true rfl, Nat.le_of_ble_eq_true rfl⟩) (preVT_of hA hR hS hK hX hLX _) rfl rfl hl.1 rfl (lv_room (Nat.le_of_ble_eq_true rfl)) dL_best_5 ⟨hcap, hsap⟩) hA hR hS (fun k σ' ad' H locs ce q9 eu hka hLX hR hS h1 h2 h3 => ?_) (fun r σ' ad' H locs eu hka hLX hR hS => ?_)
  · have hk1 := hk _ _ eu
    subst eu
    rcases hk1 with rfl | rfl
    · refine vx_catch (E := exN 1) (name := exN 1) hown [] ⟨0, 10, 13, 13⟩ [⟨0, 10, 17, 53⟩] (htab.trans rfl) (fun z hz => nomatch hz) (by decide) (by decide) (hts _ q_465) (va_Nw.use rfl (hK.2 _ q_478)) h1 h2 h3 ?_
      refine lv_astore (lv' := [(4, .ref q9), (0, .ref (ad 0 0)), (1, .int p1), (2, .int p2), (3, .ref o)]) hx hb dL_best_13 hl (by decide) rfl (fun ls hl => ?_)
      refine lv_iconst (v := 1) hx hb dL_best_15 (by decide) ?_
      exact rett_i hC ⟨rfl, rfl⟩ hka hLX hR hS hcap hsap dL_best_16
    · refine vx_catch (E := exN 4) (name := exN 4) hown [⟨0, 10, 13, 13⟩] ⟨0, 10, 17, 53⟩ [] (htab.trans rfl) (fun z hz => by rw [List.mem_singleton.mp hz]; exact Or.inr ⟨by decide, exN 1, hts _ q_465, hN.2.2⟩) (by decide) (by decide) (hts _ q_701) (va_Nw.use rfl (hK.2 _ q_708)) h1 h2 h3 ?_
      refine lv_astore (lv' := [(4, .ref q9), (0, .ref (ad 0 0)), (1, .int p1), (2, .int p2), (3, .ref o)]) hx hb dL_best_17 hl (by decide) rfl (fun ls hl => ?_)
      refine lv_iconst (v := 2) hx hb dL_best_19 (by decide) ?_
      exact rett_i hC ⟨rfl, rfl⟩ hka hLX hR hS hcap hsap dL_best_20
  · subst eu
    refine lv_i2l hx hb dL_best_8 rfl ?_
    refine ww_last hx hb hK.1 hR hS 1 (f := 20) (j := 0) (cvT_o _) (cA := dA 1) (n := 1) (fa := v) rfl rfl (show ¬ ((0 : Int32) < 0 ∨ 1 ≤ (0 : Int32).toNatClampNeg) by decide) dL_best_9 (fun H locs hR hS => ?_)
    have hR := HT_put _ hR
    refine lv_goto (tgt := 21) hx hb dL_best_10 (by decide) ?_
    refine lv_iconst (v := 0) hx hb dL_best_21 (by decide) ?_
    exact rett_i hC ⟨rfl, rfl⟩ hka hLX hR hS hcap hsap dL_best_22
theorem mL_called (l : Launch) (hst : l.stackTraces = false) (D : va_G) (dA : Nat → ClassId) (ad : Nat → Nat → Nat) (o : Nat) (σ : St) (v : Nat → Int64) (sz x mi : Nat) (p1 : Int32) (u : XO (Int32 × St)) (mc ms : Nat) (hf : fX5_called σ p1 = some (u, mc, ms)) (hk : ∀ k σ', u = .inl (k, σ') → k = 1) : Met l yL_called (WSh yL_called cL_called 4 (some .int) [(0, 9, 12, 13)]) ({ frames := 9, cells := mc, slots := ms, locals := 153 } : Room) (va_Pc [.ref (ad 0 0), .int p1, .ref o] (PreT D dA ad o σ v x mi sz)) (QT xcat (fun r => r.toInt64) u D dA [] ad o σ v x (WT ad o σ sz)) mc ms (WT ad o σ sz) := by
  refine meth_of (by decide) (Nat.le_of_ble_eq_true rfl) ?_
  intro p e s m below meth c ls hC htab hB hl
  obtain ⟨rfl, hR, hK, hX, hLX, hN⟩ := hB
  have hA : ∀ q : Nat, s.heap.size ≤ q → WT ad o σ s.heap.size q := fun q h => Or.inr h
  have hR : HT D dA (WT ad o σ s.heap.size) ad o σ v s.heap := WW_fit hR (fun f i h => WA_in h)
  have hS : va_S (WT ad o σ s.heap.size) s.heap s.heap [] := va_S.rf
  generalize WT ad o σ s.heap.size = A0 at hA hR hS hX ⊢
  have hC : CTX p s m _ meth c cL_called 4 RL (some .int) := hC
  obtain ⟨hx, hb, hml, hown, hts, hr, hlk⟩ := id hC
  have hl : lv_has ls 4 [(0, .ref (ad 0 0)), (1, .int p1), (2, .ref o)] := hl
  have hcap : 0 + mc ≤ mc := Nat.le_of_eq (Nat.zero_add _)
  have hsap : 0 + ms ≤ ms := Nat.le_of_eq (Nat.zero_add _)
  refine lv_aload_n hx hb dL_called_0 rfl (lv_at hl 2 rfl) ?_
  refine lv_iconst (v := 0) hx hb dL_called_1 (by decide) ?_
  refine lv_aload_n hx hb dL_called_2 rfl (lv_at hl 0 rfl) ?_
  refine lv_iload_n hx hb dL_called_3 rfl (lv_at hl 1 rfl) ?_
  refine kct_i (vx_runV (As := [.int p1]) (rest := [.int 0, .ref o]) ⟨hx, hb, hml, hown, hts⟩ (mX5_called l hst D dA ad σ _ x mi p1 u mc ms hf) (cwV 1 hts gL_55 rfl rfl rfl (by decide +kernel) ⟨Nat.le_of_ble_eq_true rfl, Nat.le_of_ble_eq_true rfl⟩) (preVT_of hA hR hS hK hX hLX _) rfl rfl hl.1 rfl (lv_room (Nat.le_of_ble_eq_true rfl)) dL_called_4 ⟨hcap, hsap⟩) hA hR hS (fun k σ' ad' H locs ce q9 eu hka hLX hR hS h1 h2 h3 => ?_) (fun r σ' ad' H locs eu hka hLX hR hS => ?_)
  · have hk1 := hk _ _ eu
    subst eu
    subst hk1
    refine vx_catch (E := exN 1) (name := exN 1) hown [] ⟨0, 9, 12, 13⟩ [] (htab.trans rfl) (fun z hz => nomatch hz) (by decide) (by decide) (hts _ q_465) (va_Nw.use rfl (hK.2 _ q_478)) h1 h2 h3 ?_
    refine lv_astore_n (lv' := [(3, .ref q9), (0, .ref (ad 0 0)), (1, .int p1), (2, .ref o)]) hx hb dL_called_12 rfl hl (by decide) rfl (fun ls hl => ?_)
    refine lv_iconst (v := 1) hx hb dL_called_13 (by decide) ?_
    exact rett_i hC ⟨rfl, rfl⟩ hka hLX hR hS hcap hsap dL_called_14
  · subst eu
    refine lv_i2l hx hb dL_called_7 rfl ?_
    refine ww_last hx hb hK.1 hR hS 1 (f := 20) (j := 0) (cvT_o _) (cA := dA 1) (n := 1) (fa := v) rfl rfl (show ¬ ((0 : Int32) < 0 ∨ 1 ≤ (0 : Int32).toNatClampNeg) by decide) dL_called_8 (fun H locs hR hS => ?_)
    have hR := HT_put _ hR
    refine lv_goto (tgt := 15) hx hb dL_called_9 (by decide) ?_
    refine lv_iconst (v := 0) hx hb dL_called_15 (by decide) ?_
    exact rett_i hC ⟨rfl, rfl⟩ hka hLX hR hS hcap hsap dL_called_16
theorem mL_hasFailed (l : Launch) (hst : l.stackTraces = false) (D : va_G) (dA : Nat → ClassId) (ad : Nat → Nat → Nat) (o : Nat) (σ : St) (v : Nat → Int64) (sz x mi : Nat) (p1 : Int32) (u : XO (Int32 × St)) (mc ms : Nat) (hf : fX5_hasFailed σ p1 = some (u, mc, ms)) (hk : ∀ k σ', u = .inl (k, σ') → k = 1) : Met l yL_hasFailed (WSh yL_hasFailed cL_hasFailed 4 (some .int) [(0, 16, 19, 13)]) ({ frames := 9, cells := mc, slots := ms, locals := 153 } : Room) (va_Pc [.ref (ad 0 0), .int p1, .ref o] (PreT D dA ad o σ v x mi sz)) (QT xcat (fun r => if r = 0 then 0 else 1) u D dA [] ad o σ v x (WT ad o σ sz)) mc ms (WT ad o σ sz) := by
  refine meth_of (by decide) (Nat.le_of_ble_eq_true rfl) ?_
  intro p e s m below meth c ls hC htab hB hl
  obtain ⟨rfl, hR, hK, hX, hLX, hN⟩ := hB
  have hA : ∀ q : Nat, s.heap.size ≤ q → WT ad o σ s.heap.size q := fun q h => Or.inr h
  have hR : HT D dA (WT ad o σ s.heap.size) ad o σ v s.heap := WW_fit hR (fun f i h => WA_in h)
  have hS : va_S (WT ad o σ s.heap.size) s.heap s.heap [] := va_S.rf
  generalize WT ad o σ s.heap.size = A0 at hA hR hS hX ⊢
  have hC : CTX p s m _ meth c cL_hasFailed 4 RL (some .int) := hC
  obtain ⟨hx, hb, hml, hown, hts, hr, hlk⟩ := id hC
  have hl : lv_has ls 4 [(0, .ref (ad 0 0)), (1, .int p1), (2, .ref o)] := hl
  have hcap : 0 + mc ≤ mc := Nat.le_of_eq (Nat.zero_add _)
  have hsap : 0 + ms ≤ ms := Nat.le_of_eq (Nat.zero_add _)
  refine lv_aload_n hx hb dL_hasFailed_0 rfl (lv_at hl 2 rfl) ?_
  refine lv_iconst (v := 0) hx hb dL_hasFailed_1 (by decide) ?_
  refine lv_aload_n hx hb dL_hasFailed_2 rfl (lv_at hl 0 rfl) ?_
  refine lv_iload_n hx hb dL_hasFailed_3 rfl (lv_at hl 1 rfl) ?_
  refine kct_i (vx_runV (As := [.int p1]) (rest := [.int 0, .ref o]) ⟨hx, hb, hml, hown, hts⟩ (mX5_hasFailed l hst D dA ad σ _ x mi p1 u mc ms hf) (cwV 1 hts gL_58 rfl rfl rfl (by decide +kernel) ⟨Nat.le_of_ble_eq_true rfl, Nat.le_of_ble_eq_true rfl⟩) (preVT_of hA hR hS hK hX hLX _) rfl rfl hl.1 rfl (lv_room (Nat.le_of_ble_eq_true rfl)) dL_hasFailed_4 ⟨hcap, hsap⟩) hA hR hS (fun k σ' ad' H locs ce q9 eu hka hLX hR hS h1 h2 h3 => ?_) (fun r σ' ad' H locs eu hka hLX hR hS => ?_)
  · have hk1 := hk _ _ eu
    subst eu
    subst hk1
    refine vx_catch (E := exN 1) (name := exN 1) hown [] ⟨0, 16, 19, 13⟩ [] (htab.trans rfl) (fun z hz => nomatch hz) (by decide) (by decide) (hts _ q_465) (va_Nw.use rfl (hK.2 _ q_478)) h1 h2 h3 ?_
    refine lv_astore_n (lv' := [(3, .ref q9), (0, .ref (ad 0 0)), (1, .int p1), (2, .ref o)]) hx hb dL_hasFailed_19 rfl hl (by decide) rfl (fun ls hl => ?_)
    refine lv_iconst (v := 1) hx hb dL_hasFailed_20 (by decide) ?_
    exact rett_i hC ⟨rfl, rfl⟩ hka hLX hR hS hcap hsap dL_hasFailed_21
  · subst eu
    refine lv_if_eq (tgt := 14) hx hb dL_hasFailed_7 (by decide) (fun c1 => ?_) (fun c1 => ?_)
    · refine lv_lconst (v := 0) hx hb dL_hasFailed_14 (by decide) ?_
      refine ww_last hx hb hK.1 hR hS 1 (f := 20) (j := 0) (cvT_o _) (cA := dA 1) (n := 1) (fa := v) rfl rfl (show ¬ ((0 : Int32) < 0 ∨ 1 ≤ (0 : Int32).toNatClampNeg) by decide) dL_hasFailed_15 (fun H locs hR hS => ?_)
      have hR := HT_put _ hR
      refine lv_goto (tgt := 22) hx hb dL_hasFailed_16 (by decide) ?_
      refine lv_iconst (v := 0) hx hb dL_hasFailed_22 (by decide) ?_
      exact rett_i hC ⟨rfl, by dsimp only; rw [if_pos c1]⟩ hka hLX hR hS hcap hsap dL_hasFailed_23
    · refine lv_lconst (v := 1) hx hb dL_hasFailed_10 (by decide) ?_
      refine lv_goto (tgt := 15) hx hb dL_hasFailed_11 (by decide) ?_
      refine ww_last hx hb hK.1 hR hS 1 (f := 20) (j := 0) (cvT_o _) (cA := dA 1) (n := 1) (fa := v) rfl rfl (show ¬ ((0 : Int32) < 0 ∨ 1 ≤ (0 : Int32).toNatClampNeg) by decide) dL_hasFailed_15 (fun H locs hR hS => ?_)
      have hR := HT_put _ hR
      refine lv_goto (tgt := 22) hx hb dL_hasFailed_16 (by decide) ?_
      refine lv_iconst (v := 0) hx hb dL_hasFailed_22 (by decide) ?_
      exact rett_i hC ⟨rfl, by dsimp only; rw [if_neg c1]⟩ hka hLX hR hS hcap hsap dL_hasFailed_23
theorem mL_position (l : Launch) (hst : l.stackTraces = false) (D : va_G) (dA : Nat → ClassId) (ad : Nat → Nat → Nat) (o : Nat) (σ : St) (v : Nat → Int64) (sz x mi : Nat) (p1 : Int32) (p2 : Int32) (u : XO (Int32 × St)) (mc ms : Nat) (hf : fX5_position σ p1 p2 = some (u, mc, ms)) (hk : ∀ k σ', u = .inl (k, σ') → k = 1) : Met l yL_position (WSh yL_position cL_position 5 (some .int) [(0, 10, 13, 13)]) ({ frames := 9, cells := mc, slots := ms, locals := 154 } : Room) (va_Pc [.ref (ad 0 0), .int p1, .int p2, .ref o] (PreT D dA ad o σ v x mi sz)) (QT xcat (fun r => r.toInt64) u D dA [] ad o σ v x (WT ad o σ sz)) mc ms (WT ad o σ sz) := by
  refine meth_of (by decide) (Nat.le_of_ble_eq_true rfl) ?_
  intro p e s m below meth c ls hC htab hB hl
  obtain ⟨rfl, hR, hK, hX, hLX, hN⟩ := hB
  have hA : ∀ q : Nat, s.heap.size ≤ q → WT ad o σ s.heap.size q := fun q h => Or.inr h
  have hR : HT D dA (WT ad o σ s.heap.size) ad o σ v s.heap := WW_fit hR (fun f i h => WA_in h)
  have hS : va_S (WT ad o σ s.heap.size) s.heap s.heap [] := va_S.rf
  generalize WT ad o σ s.heap.size = A0 at hA hR hS hX ⊢
  have hC : CTX p s m _ meth c cL_position 5 RL (some .int) := hC
  obtain ⟨hx, hb, hml, hown, hts, hr, hlk⟩ := id hC
  have hl : lv_has ls 5 [(0, .ref (ad 0 0)), (1, .int p1), (2, .int p2), (3, .ref o)] := hl
  have hcap : 0 + mc ≤ mc := Nat.le_of_eq (Nat.zero_add _)
  have hsap : 0 + ms ≤ ms := Nat.le_of_eq (Nat.zero_add _)
  refine lv_aload_n hx hb dL_position_0 rfl (lv_at hl 3 rfl) ?_
  refine lv_iconst (v := 0) hx hb dL_position_1 (by decide) ?_
  refine lv_aload_n hx hb dL_position_2 rfl (lv_at hl 0 rfl) ?_
  refine lv_iload_n hx hb dL_position_3 rfl (lv_at hl 1 rfl) ?_
  refine lv_iload_n hx hb dL_position_4 rfl (lv_at hl 2 rfl) ?_
  refine kct_i (vx_runV (As := [.int p1, .int p2]) (rest := [.int 0, .ref o]) ⟨hx, hb, hml, hown, hts⟩ (mX5_position l hst D dA ad σ _ x mi p1 p2 u mc ms hf) (cwV 2 hts gL_62 rfl rfl rfl (by decide +kernel) ⟨Nat.le_of_ble_eq_true rfl, Nat.le_of_ble_eq_true rfl⟩) (preVT_of hA hR hS hK hX hLX _) rfl rfl hl.1 rfl (lv_room (Nat.le_of_ble_eq_true rfl)) dL_position_5 ⟨hcap, hsap⟩) hA hR hS (fun k σ' ad' H locs ce q9 eu hka hLX hR hS h1 h2 h3 => ?_) (fun r σ' ad' H locs eu hka hLX hR hS => ?_)
  · have hk1 := hk _ _ eu
    subst eu
    subst hk1
    refine vx_catch (E := exN 1) (name := exN 1) hown [] ⟨0, 10, 13, 13⟩ [] (htab.trans rfl) (fun z hz => nomatch hz) (by decide) (by decide) (hts _ q_465) (va_Nw.use rfl (hK.2 _ q_478)) h1 h2 h3 ?_
    refine lv_astore (lv' := [(4, .ref q9), (0, .ref (ad 0 0)), (1, .int p1), (2, .int p2), (3, .ref o)]) hx hb dL_position_13 hl (by decide) rfl (fun ls hl => ?_)
    refine lv_iconst (v := 1) hx hb dL_position_15 (by decide) ?_
    exact rett_i hC ⟨rfl, rfl⟩ hka hLX hR hS hcap hsap dL_position_16
  · subst eu
    refine lv_i2l hx hb dL_position_8 rfl ?_
    refine ww_last hx hb hK.1 hR hS 1 (f := 20) (j := 0) (cvT_o _) (cA := dA 1) (n := 1) (fa := v) rfl rfl (show ¬ ((0 : Int32) < 0 ∨ 1 ≤ (0 : Int32).toNatClampNeg) by decide) dL_position_9 (fun H locs hR hS => ?_)
    have hR := HT_put _ hR
    refine lv_goto (tgt := 17) hx hb dL_position_10 (by decide) ?_
    refine lv_iconst (v := 0) hx hb dL_position_17 (by decide) ?_
    exact rett_i hC ⟨rfl, rfl⟩ hka hLX hR hS hcap hsap dL_position_18
theorem mL_cash (l : Launch) (hst : l.stackTraces = false) (D : va_G) (dA : Nat → ClassId) (ad : Nat → Nat → Nat) (o : Nat) (σ : St) (v : Nat → Int64) (sz x mi : Nat) (p1 : Int32) (u : XO (Int32 × St)) (mc ms : Nat) (hf : fX5_cash σ p1 = some (u, mc, ms)) (hk : ∀ k σ', u = .inl (k, σ') → k = 1) : Met l yL_cash (WSh yL_cash cL_cash 4 (some .int) [(0, 9, 12, 13)]) ({ frames := 9, cells := mc, slots := ms, locals := 153 } : Room) (va_Pc [.ref (ad 0 0), .int p1, .ref o] (PreT D dA ad o σ v x mi sz)) (QT xcat (fun r => r.toInt64) u D dA [] ad o σ v x (WT ad o σ sz)) mc ms (WT ad o σ sz) := by
  refine meth_of (by decide) (Nat.le_of_ble_eq_true rfl) ?_
  intro p e s m below meth c ls hC htab hB hl
  obtain ⟨rfl, hR, hK, hX, hLX, hN⟩ := hB
  have hA : ∀ q : Nat, s.heap.size ≤ q → WT ad o σ s.heap.size q := fun q h => Or.inr h
  have hR : HT D dA (WT ad o σ s.heap.size) ad o σ v s.heap := WW_fit hR (fun f i h => WA_in h)
  have hS : va_S (WT ad o σ s.heap.size) s.heap s.heap [] := va_S.rf
  generalize WT ad o σ s.heap.size = A0 at hA hR hS hX ⊢
  have hC : CTX p s m _ meth c cL_cash 4 RL (some .int) := hC
  obtain ⟨hx, hb, hml, hown, hts, hr, hlk⟩ := id hC
  have hl : lv_has ls 4 [(0, .ref (ad 0 0)), (1, .int p1), (2, .ref o)] := hl
  have hcap : 0 + mc ≤ mc := Nat.le_of_eq (Nat.zero_add _)
  have hsap : 0 + ms ≤ ms := Nat.le_of_eq (Nat.zero_add _)
  refine lv_aload_n hx hb dL_cash_0 rfl (lv_at hl 2 rfl) ?_
  refine lv_iconst (v := 0) hx hb dL_cash_1 (by decide) ?_
  refine lv_aload_n hx hb dL_cash_2 rfl (lv_at hl 0 rfl) ?_
  refine lv_iload_n hx hb dL_cash_3 rfl (lv_at hl 1 rfl) ?_
  refine kct_i (vx_runV (As := [.int p1]) (rest := [.int 0, .ref o]) ⟨hx, hb, hml, hown, hts⟩ (mX5_cash l hst D dA ad σ _ x mi p1 u mc ms hf) (cwV 1 hts gL_65 rfl rfl rfl (by decide +kernel) ⟨Nat.le_of_ble_eq_true rfl, Nat.le_of_ble_eq_true rfl⟩) (preVT_of hA hR hS hK hX hLX _) rfl rfl hl.1 rfl (lv_room (Nat.le_of_ble_eq_true rfl)) dL_cash_4 ⟨hcap, hsap⟩) hA hR hS (fun k σ' ad' H locs ce q9 eu hka hLX hR hS h1 h2 h3 => ?_) (fun r σ' ad' H locs eu hka hLX hR hS => ?_)
  · have hk1 := hk _ _ eu
    subst eu
    subst hk1
    refine vx_catch (E := exN 1) (name := exN 1) hown [] ⟨0, 9, 12, 13⟩ [] (htab.trans rfl) (fun z hz => nomatch hz) (by decide) (by decide) (hts _ q_465) (va_Nw.use rfl (hK.2 _ q_478)) h1 h2 h3 ?_
    refine lv_astore_n (lv' := [(3, .ref q9), (0, .ref (ad 0 0)), (1, .int p1), (2, .ref o)]) hx hb dL_cash_12 rfl hl (by decide) rfl (fun ls hl => ?_)
    refine lv_iconst (v := 1) hx hb dL_cash_13 (by decide) ?_
    exact rett_i hC ⟨rfl, rfl⟩ hka hLX hR hS hcap hsap dL_cash_14
  · subst eu
    refine lv_i2l hx hb dL_cash_7 rfl ?_
    refine ww_last hx hb hK.1 hR hS 1 (f := 20) (j := 0) (cvT_o _) (cA := dA 1) (n := 1) (fa := v) rfl rfl (show ¬ ((0 : Int32) < 0 ∨ 1 ≤ (0 : Int32).toNatClampNeg) by decide) dL_cash_8 (fun H locs hR hS => ?_)
    have hR := HT_put _ hR
    refine lv_goto (tgt := 15) hx hb dL_cash_9 (by decide) ?_
    refine lv_iconst (v := 0) hx hb dL_cash_15 (by decide) ?_
    exact rett_i hC ⟨rfl, rfl⟩ hka hLX hR hS hcap hsap dL_cash_16
theorem mL_equity (l : Launch) (hst : l.stackTraces = false) (D : va_G) (dA : Nat → ClassId) (ad : Nat → Nat → Nat) (o : Nat) (σ : St) (v : Nat → Int64) (sz x mi : Nat) (p1 : Int32) (u : XO (Int32 × St)) (mc ms : Nat) (hf : fX5_equity σ p1 = some (u, mc, ms)) (hk : ∀ k σ', u = .inl (k, σ') → k = 1) : Met l yL_equity (WSh yL_equity cL_equity 4 (some .int) [(0, 9, 12, 13)]) ({ frames := 9, cells := mc, slots := ms, locals := 153 } : Room) (va_Pc [.ref (ad 0 0), .int p1, .ref o] (PreT D dA ad o σ v x mi sz)) (QT xcat (fun r => r.toInt64) u D dA [] ad o σ v x (WT ad o σ sz)) mc ms (WT ad o σ sz) := by
  refine meth_of (by decide) (Nat.le_of_ble_eq_true rfl) ?_
  intro p e s m below meth c ls hC htab hB hl
  obtain ⟨rfl, hR, hK, hX, hLX, hN⟩ := hB
  have hA : ∀ q : Nat, s.heap.size ≤ q → WT ad o σ s.heap.size q := fun q h => Or.inr h
  have hR : HT D dA (WT ad o σ s.heap.size) ad o σ v s.heap := WW_fit hR (fun f i h => WA_in h)
  have hS : va_S (WT ad o σ s.heap.size) s.heap s.heap [] := va_S.rf
  generalize WT ad o σ s.heap.size = A0 at hA hR hS hX ⊢
  have hC : CTX p s m _ meth c cL_equity 4 RL (some .int) := hC
  obtain ⟨hx, hb, hml, hown, hts, hr, hlk⟩ := id hC
  have hl : lv_has ls 4 [(0, .ref (ad 0 0)), (1, .int p1), (2, .ref o)] := hl
  have hcap : 0 + mc ≤ mc := Nat.le_of_eq (Nat.zero_add _)
  have hsap : 0 + ms ≤ ms := Nat.le_of_eq (Nat.zero_add _)
  refine lv_aload_n hx hb dL_equity_0 rfl (lv_at hl 2 rfl) ?_
  refine lv_iconst (v := 0) hx hb dL_equity_1 (by decide) ?_
  refine lv_aload_n hx hb dL_equity_2 rfl (lv_at hl 0 rfl) ?_
  refine lv_iload_n hx hb dL_equity_3 rfl (lv_at hl 1 rfl) ?_
  refine kct_i (vx_runV (As := [.int p1]) (rest := [.int 0, .ref o]) ⟨hx, hb, hml, hown, hts⟩ (mX5_equity l hst D dA ad σ _ x mi p1 u mc ms hf) (cwV 1 hts gL_68 rfl rfl rfl (by decide +kernel) ⟨Nat.le_of_ble_eq_true rfl, Nat.le_of_ble_eq_true rfl⟩) (preVT_of hA hR hS hK hX hLX _) rfl rfl hl.1 rfl (lv_room (Nat.le_of_ble_eq_true rfl)) dL_equity_4 ⟨hcap, hsap⟩) hA hR hS (fun k σ' ad' H locs ce q9 eu hka hLX hR hS h1 h2 h3 => ?_) (fun r σ' ad' H locs eu hka hLX hR hS => ?_)
  · have hk1 := hk _ _ eu
    subst eu
    subst hk1
    refine vx_catch (E := exN 1) (name := exN 1) hown [] ⟨0, 9, 12, 13⟩ [] (htab.trans rfl) (fun z hz => nomatch hz) (by decide) (by decide) (hts _ q_465) (va_Nw.use rfl (hK.2 _ q_478)) h1 h2 h3 ?_
    refine lv_astore_n (lv' := [(3, .ref q9), (0, .ref (ad 0 0)), (1, .int p1), (2, .ref o)]) hx hb dL_equity_12 rfl hl (by decide) rfl (fun ls hl => ?_)
    refine lv_iconst (v := 1) hx hb dL_equity_13 (by decide) ?_
    exact rett_i hC ⟨rfl, rfl⟩ hka hLX hR hS hcap hsap dL_equity_14
  · subst eu
    refine lv_i2l hx hb dL_equity_7 rfl ?_
    refine ww_last hx hb hK.1 hR hS 1 (f := 20) (j := 0) (cvT_o _) (cA := dA 1) (n := 1) (fa := v) rfl rfl (show ¬ ((0 : Int32) < 0 ∨ 1 ≤ (0 : Int32).toNatClampNeg) by decide) dL_equity_8 (fun H locs hR hS => ?_)
    have hR := HT_put _ hR
    refine lv_goto (tgt := 15) hx hb dL_equity_9 (by decide) ?_
    refine lv_iconst (v := 0) hx hb dL_equity_15 (by decide) ?_
    exact rett_i hC ⟨rfl, rfl⟩ hka hLX hR hS hcap hsap dL_equity_16
theorem mL_equityByTrades (l : Launch) (hst : l.stackTraces = false) (D : va_G) (dA : Nat → ClassId) (ad : Nat → Nat → Nat) (o : Nat) (σ : St) (v : Nat → Int64) (sz x mi : Nat) (p1 : Int32) (u : XO (Int32 × St)) (mc ms : Nat) (hf : fX5_equityByTrades σ p1 = some (u, mc, ms)) (hk : ∀ k σ', u = .inl (k, σ') → k = 1) : Met l yL_equityByTrades (WSh yL_equityByTrades cL_equityByTrades 4 (some .int) [(0, 9, 12, 13)]) ({ frames := 9, cells := mc, slots := ms, locals := 156 } : Room) (va_Pc [.ref (ad 0 0), .int p1, .ref o] (PreT D dA ad o σ v x mi sz)) (QT xcat (fun r => r.toInt64) u D dA [] ad o σ v x (WT ad o σ sz)) mc ms (WT ad o σ sz) := by
  refine meth_of (by decide) (Nat.le_of_ble_eq_true rfl) ?_
  intro p e s m below meth c ls hC htab hB hl
  obtain ⟨rfl, hR, hK, hX, hLX, hN⟩ := hB
  have hA : ∀ q : Nat, s.heap.size ≤ q → WT ad o σ s.heap.size q := fun q h => Or.inr h
  have hR : HT D dA (WT ad o σ s.heap.size) ad o σ v s.heap := WW_fit hR (fun f i h => WA_in h)
  have hS : va_S (WT ad o σ s.heap.size) s.heap s.heap [] := va_S.rf
  generalize WT ad o σ s.heap.size = A0 at hA hR hS hX ⊢
  have hC : CTX p s m _ meth c cL_equityByTrades 4 RL (some .int) := hC
  obtain ⟨hx, hb, hml, hown, hts, hr, hlk⟩ := id hC
  have hl : lv_has ls 4 [(0, .ref (ad 0 0)), (1, .int p1), (2, .ref o)] := hl
  have hcap : 0 + mc ≤ mc := Nat.le_of_eq (Nat.zero_add _)
  have hsap : 0 + ms ≤ ms := Nat.le_of_eq (Nat.zero_add _)
  refine lv_aload_n hx hb dL_equityByTrades_0 rfl (lv_at hl 2 rfl) ?_
  refine lv_iconst (v := 0) hx hb dL_equityByTrades_1 (by decide) ?_
  refine lv_aload_n hx hb dL_equityByTrades_2 rfl (lv_at hl 0 rfl) ?_
  refine lv_iload_n hx hb dL_equityByTrades_3 rfl (lv_at hl 1 rfl) ?_
  refine kct_i (vx_runV (As := [.int p1]) (rest := [.int 0, .ref o]) ⟨hx, hb, hml, hown, hts⟩ (mX5_equityByTrades l hst D dA ad σ _ x mi p1 u mc ms hf) (cwV 1 hts gL_71 rfl rfl rfl (by decide +kernel) ⟨Nat.le_of_ble_eq_true rfl, Nat.le_of_ble_eq_true rfl⟩) (preVT_of hA hR hS hK hX hLX _) rfl rfl hl.1 rfl (lv_room (Nat.le_of_ble_eq_true rfl)) dL_equityByTrades_4 ⟨hcap, hsap⟩) hA hR hS (fun k σ' ad' H locs ce q9 eu hka hLX hR hS h1 h2 h3 => ?_) (fun r σ' ad' H locs eu hka hLX hR hS => ?_)
  · have hk1 := hk _ _ eu
    subst eu
    subst hk1
    refine vx_catch (E := exN 1) (name := exN 1) hown [] ⟨0, 9, 12, 13⟩ [] (htab.trans rfl) (fun z hz => nomatch hz) (by decide) (by decide) (hts _ q_465) (va_Nw.use rfl (hK.2 _ q_478)) h1 h2 h3 ?_
    refine lv_astore_n (lv' := [(3, .ref q9), (0, .ref (ad 0 0)), (1, .int p1), (2, .ref o)]) hx hb dL_equityByTrades_12 rfl hl (by decide) rfl (fun ls hl => ?_)
    refine lv_iconst (v := 1) hx hb dL_equityByTrades_13 (by decide) ?_
    exact rett_i hC ⟨rfl, rfl⟩ hka hLX hR hS hcap hsap dL_equityByTrades_14
  · subst eu
    refine lv_i2l hx hb dL_equityByTrades_7 rfl ?_
    refine ww_last hx hb hK.1 hR hS 1 (f := 20) (j := 0) (cvT_o _) (cA := dA 1) (n := 1) (fa := v) rfl rfl (show ¬ ((0 : Int32) < 0 ∨ 1 ≤ (0 : Int32).toNatClampNeg) by decide) dL_equityByTrades_8 (fun H locs hR hS => ?_)
    have hR := HT_put _ hR
    refine lv_goto (tgt := 15) hx hb dL_equityByTrades_9 (by decide) ?_
    refine lv_iconst (v := 0) hx hb dL_equityByTrades_15 (by decide) ?_
    exact rett_i hC ⟨rfl, rfl⟩ hka hLX hR hS hcap hsap dL_equityByTrades_16
theorem mL_margin (l : Launch) (hst : l.stackTraces = false) (D : va_G) (dA : Nat → ClassId) (ad : Nat → Nat → Nat) (o : Nat) (σ : St) (v : Nat → Int64) (sz x mi : Nat) (p1 : Int32) (u : XO (Int32 × St)) (mc ms : Nat) (hf : fX5_margin σ p1 = some (u, mc, ms)) (hk : ∀ k σ', u = .inl (k, σ') → k = 1) : Met l yL_margin (WSh yL_margin cL_margin 4 (some .int) [(0, 9, 12, 13)]) ({ frames := 9, cells := mc, slots := ms, locals := 153 } : Room) (va_Pc [.ref (ad 0 0), .int p1, .ref o] (PreT D dA ad o σ v x mi sz)) (QT xcat (fun r => r.toInt64) u D dA [] ad o σ v x (WT ad o σ sz)) mc ms (WT ad o σ sz) := by
  refine meth_of (by decide) (Nat.le_of_ble_eq_true rfl) ?_
  intro p e s m below meth c ls hC htab hB hl
  obtain ⟨rfl, hR, hK, hX, hLX, hN⟩ := hB
  have hA : ∀ q : Nat, s.heap.size ≤ q → WT ad o σ s.heap.size q := fun q h => Or.inr h
  have hR : HT D dA (WT ad o σ s.heap.size) ad o σ v s.heap := WW_fit hR (fun f i h => WA_in h)
  have hS : va_S (WT ad o σ s.heap.size) s.heap s.heap [] := va_S.rf
  generalize WT ad o σ s.heap.size = A0 at hA hR hS hX ⊢
  have hC : CTX p s m _ meth c cL_margin 4 RL (some .int) := hC
  obtain ⟨hx, hb, hml, hown, hts, hr, hlk⟩ := id hC
  have hl : lv_has ls 4 [(0, .ref (ad 0 0)), (1, .int p1), (2, .ref o)] := hl
  have hcap : 0 + mc ≤ mc := Nat.le_of_eq (Nat.zero_add _)
  have hsap : 0 + ms ≤ ms := Nat.le_of_eq (Nat.zero_add _)
  refine lv_aload_n hx hb dL_margin_0 rfl (lv_at hl 2 rfl) ?_
  refine lv_iconst (v := 0) hx hb dL_margin_1 (by decide) ?_
  refine lv_aload_n hx hb dL_margin_2 rfl (lv_at hl 0 rfl) ?_
  refine lv_iload_n hx hb dL_margin_3 rfl (lv_at hl 1 rfl) ?_
  refine kct_i (vx_runV (As := [.int p1]) (rest := [.int 0, .ref o]) ⟨hx, hb, hml, hown, hts⟩ (mX5_margin l hst D dA ad σ _ x mi p1 u mc ms hf) (cwV 1 hts gL_74 rfl rfl rfl (by decide +kernel) ⟨Nat.le_of_ble_eq_true rfl, Nat.le_of_ble_eq_true rfl⟩) (preVT_of hA hR hS hK hX hLX _) rfl rfl hl.1 rfl (lv_room (Nat.le_of_ble_eq_true rfl)) dL_margin_4 ⟨hcap, hsap⟩) hA hR hS (fun k σ' ad' H locs ce q9 eu hka hLX hR hS h1 h2 h3 => ?_) (fun r σ' ad' H locs eu hka hLX hR hS => ?_)
  · have hk1 := hk _ _ eu
    subst eu
    subst hk1
    refine vx_catch (E := exN 1) (name := exN 1) hown [] ⟨0, 9, 12, 13⟩ [] (htab.trans rfl) (fun z hz => nomatch hz) (by decide) (by decide) (hts _ q_465) (va_Nw.use rfl (hK.2 _ q_478)) h1 h2 h3 ?_
    refine lv_astore_n (lv' := [(3, .ref q9), (0, .ref (ad 0 0)), (1, .int p1), (2, .ref o)]) hx hb dL_margin_12 rfl hl (by decide) rfl (fun ls hl => ?_)
    refine lv_iconst (v := 1) hx hb dL_margin_13 (by decide) ?_
    exact rett_i hC ⟨rfl, rfl⟩ hka hLX hR hS hcap hsap dL_margin_14
  · subst eu
    refine lv_i2l hx hb dL_margin_7 rfl ?_
    refine ww_last hx hb hK.1 hR hS 1 (f := 20) (j := 0) (cvT_o _) (cA := dA 1) (n := 1) (fa := v) rfl rfl (show ¬ ((0 : Int32) < 0 ∨ 1 ≤ (0 : Int32).toNatClampNeg) by decide) dL_margin_8 (fun H locs hR hS => ?_)
    have hR := HT_put _ hR
    refine lv_goto (tgt := 15) hx hb dL_margin_9 (by decide) ?_
    refine lv_iconst (v := 0) hx hb dL_margin_15 (by decide) ?_
    exact rett_i hC ⟨rfl, rfl⟩ hka hLX hR hS hcap hsap dL_margin_16
theorem mL_haircut (l : Launch) (hst : l.stackTraces = false) (D : va_G) (dA : Nat → ClassId) (ad : Nat → Nat → Nat) (o : Nat) (σ : St) (v : Nat → Int64) (sz x mi : Nat) (p1 : Int32) (u : XO (Int32 × St)) (mc ms : Nat) (hf : fX5_haircut σ p1 = some (u, mc, ms)) (hk : ∀ k σ', u = .inl (k, σ') → k = 1) : Met l yL_haircut (WSh yL_haircut cL_haircut 4 (some .int) [(0, 9, 12, 13)]) ({ frames := 9, cells := mc, slots := ms, locals := 153 } : Room) (va_Pc [.ref (ad 0 0), .int p1, .ref o] (PreT D dA ad o σ v x mi sz)) (QT xcat (fun r => r.toInt64) u D dA [] ad o σ v x (WT ad o σ sz)) mc ms (WT ad o σ sz) := by
  refine meth_of (by decide) (Nat.le_of_ble_eq_true rfl) ?_
  intro p e s m below meth c ls hC htab hB hl
  obtain ⟨rfl, hR, hK, hX, hLX, hN⟩ := hB
  have hA : ∀ q : Nat, s.heap.size ≤ q → WT ad o σ s.heap.size q := fun q h => Or.inr h
  have hR : HT D dA (WT ad o σ s.heap.size) ad o σ v s.heap := WW_fit hR (fun f i h => WA_in h)
  have hS : va_S (WT ad o σ s.heap.size) s.heap s.heap [] := va_S.rf
  generalize WT ad o σ s.heap.size = A0 at hA hR hS hX ⊢
  have hC : CTX p s m _ meth c cL_haircut 4 RL (some .int) := hC
  obtain ⟨hx, hb, hml, hown, hts, hr, hlk⟩ := id hC
  have hl : lv_has ls 4 [(0, .ref (ad 0 0)), (1, .int p1), (2, .ref o)] := hl
  have hcap : 0 + mc ≤ mc := Nat.le_of_eq (Nat.zero_add _)
  have hsap : 0 + ms ≤ ms := Nat.le_of_eq (Nat.zero_add _)
  refine lv_aload_n hx hb dL_haircut_0 rfl (lv_at hl 2 rfl) ?_
  refine lv_iconst (v := 0) hx hb dL_haircut_1 (by decide) ?_
  refine lv_aload_n hx hb dL_haircut_2 rfl (lv_at hl 0 rfl) ?_
  refine lv_iload_n hx hb dL_haircut_3 rfl (lv_at hl 1 rfl) ?_
  refine kct_i (vx_runV (As := [.int p1]) (rest := [.int 0, .ref o]) ⟨hx, hb, hml, hown, hts⟩ (mX5_haircut l hst D dA ad σ _ x mi p1 u mc ms hf) (cwV 1 hts gL_77 rfl rfl rfl (by decide +kernel) ⟨Nat.le_of_ble_eq_true rfl, Nat.le_of_ble_eq_true rfl⟩) (preVT_of hA hR hS hK hX hLX _) rfl rfl hl.1 rfl (lv_room (Nat.le_of_ble_eq_true rfl)) dL_haircut_4 ⟨hcap, hsap⟩) hA hR hS (fun k σ' ad' H locs ce q9 eu hka hLX hR hS h1 h2 h3 => ?_) (fun r σ' ad' H locs eu hka hLX hR hS => ?_)
  · have hk1 := hk _ _ eu
    subst eu
    subst hk1
    refine vx_catch (E := exN 1) (name := exN 1) hown [] ⟨0, 9, 12, 13⟩ [] (htab.trans rfl) (fun z hz => nomatch hz) (by decide) (by decide) (hts _ q_465) (va_Nw.use rfl (hK.2 _ q_478)) h1 h2 h3 ?_
    refine lv_astore_n (lv' := [(3, .ref q9), (0, .ref (ad 0 0)), (1, .int p1), (2, .ref o)]) hx hb dL_haircut_12 rfl hl (by decide) rfl (fun ls hl => ?_)
    refine lv_iconst (v := 1) hx hb dL_haircut_13 (by decide) ?_
    exact rett_i hC ⟨rfl, rfl⟩ hka hLX hR hS hcap hsap dL_haircut_14
  · subst eu
    refine lv_i2l hx hb dL_haircut_7 rfl ?_
    refine ww_last hx hb hK.1 hR hS 1 (f := 20) (j := 0) (cvT_o _) (cA := dA 1) (n := 1) (fa := v) rfl rfl (show ¬ ((0 : Int32) < 0 ∨ 1 ≤ (0 : Int32).toNatClampNeg) by decide) dL_haircut_8 (fun H locs hR hS => ?_)
    have hR := HT_put _ hR
    refine lv_goto (tgt := 15) hx hb dL_haircut_9 (by decide) ?_
    refine lv_iconst (v := 0) hx hb dL_haircut_15 (by decide) ?_
    exact rett_i hC ⟨rfl, rfl⟩ hka hLX hR hS hcap hsap dL_haircut_16
theorem mL_collateral (l : Launch) (hst : l.stackTraces = false) (D : va_G) (dA : Nat → ClassId) (ad : Nat → Nat → Nat) (o : Nat) (σ : St) (v : Nat → Int64) (sz x mi : Nat) (p1 : Int32) (u : XO (Int32 × St)) (mc ms : Nat) (hf : fX5_collateral σ p1 = some (u, mc, ms)) (hk : ∀ k σ', u = .inl (k, σ') → k = 1) : Met l yL_collateral (WSh yL_collateral cL_collateral 4 (some .int) [(0, 9, 12, 13)]) ({ frames := 9, cells := mc, slots := ms, locals := 153 } : Room) (va_Pc [.ref (ad 0 0), .int p1, .ref o] (PreT D dA ad o σ v x mi sz)) (QT xcat (fun r => r.toInt64) u D dA [] ad o σ v x (WT ad o σ sz)) mc ms (WT ad o σ sz) := by
  refine meth_of (by decide) (Nat.le_of_ble_eq_true rfl) ?_
  intro p e s m below meth c ls hC htab hB hl
  obtain ⟨rfl, hR, hK, hX, hLX, hN⟩ := hB
  have hA : ∀ q : Nat, s.heap.size ≤ q → WT ad o σ s.heap.size q := fun q h => Or.inr h
  have hR : HT D dA (WT ad o σ s.heap.size) ad o σ v s.heap := WW_fit hR (fun f i h => WA_in h)
  have hS : va_S (WT ad o σ s.heap.size) s.heap s.heap [] := va_S.rf
  generalize WT ad o σ s.heap.size = A0 at hA hR hS hX ⊢
  have hC : CTX p s m _ meth c cL_collateral 4 RL (some .int) := hC
  obtain ⟨hx, hb, hml, hown, hts, hr, hlk⟩ := id hC
  have hl : lv_has ls 4 [(0, .ref (ad 0 0)), (1, .int p1), (2, .ref o)] := hl
  have hcap : 0 + mc ≤ mc := Nat.le_of_eq (Nat.zero_add _)
  have hsap : 0 + ms ≤ ms := Nat.le_of_eq (Nat.zero_add _)
  refine lv_aload_n hx hb dL_collateral_0 rfl (lv_at hl 2 rfl) ?_
  refine lv_iconst (v := 0) hx hb dL_collateral_1 (by decide) ?_
  refine lv_aload_n hx hb dL_collateral_2 rfl (lv_at hl 0 rfl) ?_
  refine lv_iload_n hx hb dL_collateral_3 rfl (lv_at hl 1 rfl) ?_
  refine kct_i (vx_runV (As := [.int p1]) (rest := [.int 0, .ref o]) ⟨hx, hb, hml, hown, hts⟩ (mX5_collateral l hst D dA ad σ _ x mi p1 u mc ms hf) (cwV 1 hts gL_80 rfl rfl rfl (by decide +kernel) ⟨Nat.le_of_ble_eq_true rfl, Nat.le_of_ble_eq_true rfl⟩) (preVT_of hA hR hS hK hX hLX _) rfl rfl hl.1 rfl (lv_room (Nat.le_of_ble_eq_true rfl)) dL_collateral_4 ⟨hcap, hsap⟩) hA hR hS (fun k σ' ad' H locs ce q9 eu hka hLX hR hS h1 h2 h3 => ?_) (fun r σ' ad' H locs eu hka hLX hR hS => ?_)
  · have hk1 := hk _ _ eu
    subst eu
    subst hk1
    refine vx_catch (E := exN 1) (name := exN 1) hown [] ⟨0, 9, 12, 13⟩ [] (htab.trans rfl) (fun z hz => nomatch hz) (by decide) (by decide) (hts _ q_465) (va_Nw.use rfl (hK.2 _ q_478)) h1 h2 h3 ?_
    refine lv_astore_n (lv' := [(3, .ref q9), (0, .ref (ad 0 0)), (1, .int p1), (2, .ref o)]) hx hb dL_collateral_12 rfl hl (by decide) rfl (fun ls hl => ?_)
    refine lv_iconst (v := 1) hx hb dL_collateral_13 (by decide) ?_
    exact rett_i hC ⟨rfl, rfl⟩ hka hLX hR hS hcap hsap dL_collateral_14
  · subst eu
    refine lv_i2l hx hb dL_collateral_7 rfl ?_
    refine ww_last hx hb hK.1 hR hS 1 (f := 20) (j := 0) (cvT_o _) (cA := dA 1) (n := 1) (fa := v) rfl rfl (show ¬ ((0 : Int32) < 0 ∨ 1 ≤ (0 : Int32).toNatClampNeg) by decide) dL_collateral_8 (fun H locs hR hS => ?_)
    have hR := HT_put _ hR
    refine lv_goto (tgt := 15) hx hb dL_collateral_9 (by decide) ?_
    refine lv_iconst (v := 0) hx hb dL_collateral_15 (by decide) ?_
    exact rett_i hC ⟨rfl, rfl⟩ hka hLX hR hS hcap hsap dL_collateral_16
theorem mL_free (l : Launch) (hst : l.stackTraces = false) (D : va_G) (dA : Nat → ClassId) (ad : Nat → Nat → Nat) (o : Nat) (σ : St) (v : Nat → Int64) (sz x mi : Nat) (p1 : Int32) (u : XO (Int32 × St)) (mc ms : Nat) (hf : fX5_free σ p1 = some (u, mc, ms)) (hk : ∀ k σ', u = .inl (k, σ') → k = 1) : Met l yL_free (WSh yL_free cL_free 4 (some .int) [(0, 9, 12, 13)]) ({ frames := 9, cells := mc, slots := ms, locals := 164 } : Room) (va_Pc [.ref (ad 0 0), .int p1, .ref o] (PreT D dA ad o σ v x mi sz)) (QT xcat (fun r => r.toInt64) u D dA [] ad o σ v x (WT ad o σ sz)) mc ms (WT ad o σ sz) := by
  refine meth_of (by decide) (Nat.le_of_ble_eq_true rfl) ?_
  intro p e s m below meth c ls hC htab hB hl
  obtain ⟨rfl, hR, hK, hX, hLX, hN⟩ := hB
  have hA : ∀ q : Nat, s.heap.size ≤ q → WT ad o σ s.heap.size q := fun q h => Or.inr h
  have hR : HT D dA (WT ad o σ s.heap.size) ad o σ v s.heap := WW_fit hR (fun f i h => WA_in h)
  have hS : va_S (WT ad o σ s.heap.size) s.heap s.heap [] := va_S.rf
  generalize WT ad o σ s.heap.size = A0 at hA hR hS hX ⊢
  have hC : CTX p s m _ meth c cL_free 4 RL (some .int) := hC
  obtain ⟨hx, hb, hml, hown, hts, hr, hlk⟩ := id hC
  have hl : lv_has ls 4 [(0, .ref (ad 0 0)), (1, .int p1), (2, .ref o)] := hl
  have hcap : 0 + mc ≤ mc := Nat.le_of_eq (Nat.zero_add _)
  have hsap : 0 + ms ≤ ms := Nat.le_of_eq (Nat.zero_add _)
  refine lv_aload_n hx hb dL_free_0 rfl (lv_at hl 2 rfl) ?_
  refine lv_iconst (v := 0) hx hb dL_free_1 (by decide) ?_
  refine lv_aload_n hx hb dL_free_2 rfl (lv_at hl 0 rfl) ?_
  refine lv_iload_n hx hb dL_free_3 rfl (lv_at hl 1 rfl) ?_
  refine kct_i (vx_runV (As := [.int p1]) (rest := [.int 0, .ref o]) ⟨hx, hb, hml, hown, hts⟩ (mX5_free l hst D dA ad σ _ x mi p1 u mc ms hf) (cwV 1 hts gL_83 rfl rfl rfl (by decide +kernel) ⟨Nat.le_of_ble_eq_true rfl, Nat.le_of_ble_eq_true rfl⟩) (preVT_of hA hR hS hK hX hLX _) rfl rfl hl.1 rfl (lv_room (Nat.le_of_ble_eq_true rfl)) dL_free_4 ⟨hcap, hsap⟩) hA hR hS (fun k σ' ad' H locs ce q9 eu hka hLX hR hS h1 h2 h3 => ?_) (fun r σ' ad' H locs eu hka hLX hR hS => ?_)
  · have hk1 := hk _ _ eu
    subst eu
    subst hk1
    refine vx_catch (E := exN 1) (name := exN 1) hown [] ⟨0, 9, 12, 13⟩ [] (htab.trans rfl) (fun z hz => nomatch hz) (by decide) (by decide) (hts _ q_465) (va_Nw.use rfl (hK.2 _ q_478)) h1 h2 h3 ?_
    refine lv_astore_n (lv' := [(3, .ref q9), (0, .ref (ad 0 0)), (1, .int p1), (2, .ref o)]) hx hb dL_free_12 rfl hl (by decide) rfl (fun ls hl => ?_)
    refine lv_iconst (v := 1) hx hb dL_free_13 (by decide) ?_
    exact rett_i hC ⟨rfl, rfl⟩ hka hLX hR hS hcap hsap dL_free_14
  · subst eu
    refine lv_i2l hx hb dL_free_7 rfl ?_
    refine ww_last hx hb hK.1 hR hS 1 (f := 20) (j := 0) (cvT_o _) (cA := dA 1) (n := 1) (fa := v) rfl rfl (show ¬ ((0 : Int32) < 0 ∨ 1 ≤ (0 : Int32).toNatClampNeg) by decide) dL_free_8 (fun H locs hR hS => ?_)
    have hR := HT_put _ hR
    refine lv_goto (tgt := 15) hx hb dL_free_9 (by decide) ?_
    refine lv_iconst (v := 0) hx hb dL_free_15 (by decide) ?_
    exact rett_i hC ⟨rfl, rfl⟩ hka hLX hR hS hcap hsap dL_free_16
theorem mL_share (l : Launch) (hst : l.stackTraces = false) (D : va_G) (dA : Nat → ClassId) (ad : Nat → Nat → Nat) (o : Nat) (σ : St) (v : Nat → Int64) (sz x mi : Nat) (p1 : Int32) (u : XO (Int32 × St)) (mc ms : Nat) (hf : fX5_share σ p1 = some (u, mc, ms)) (hk : ∀ k σ', u = .inl (k, σ') → k = 1) : Met l yL_share (WSh yL_share cL_share 4 (some .int) [(0, 9, 12, 13)]) ({ frames := 9, cells := mc, slots := ms, locals := 153 } : Room) (va_Pc [.ref (ad 0 0), .int p1, .ref o] (PreT D dA ad o σ v x mi sz)) (QT xcat (fun r => r.toInt64) u D dA [] ad o σ v x (WT ad o σ sz)) mc ms (WT ad o σ sz) := by
  refine meth_of (by decide) (Nat.le_of_ble_eq_true rfl) ?_
  intro p e s m below meth c ls hC htab hB hl
  obtain ⟨rfl, hR, hK, hX, hLX, hN⟩ := hB
  have hA : ∀ q : Nat, s.heap.size ≤ q → WT ad o σ s.heap.size q := fun q h => Or.inr h
  have hR : HT D dA (WT ad o σ s.heap.size) ad o σ v s.heap := WW_fit hR (fun f i h => WA_in h)
  have hS : va_S (WT ad o σ s.heap.size) s.heap s.heap [] := va_S.rf
  generalize WT ad o σ s.heap.size = A0 at hA hR hS hX ⊢
  have hC : CTX p s m _ meth c cL_share 4 RL (some .int) := hC
  obtain ⟨hx, hb, hml, hown, hts, hr, hlk⟩ := id hC
  have hl : lv_has ls 4 [(0, .ref (ad 0 0)), (1, .int p1), (2, .ref o)] := hl
  have hcap : 0 + mc ≤ mc := Nat.le_of_eq (Nat.zero_add _)
  have hsap : 0 + ms ≤ ms := Nat.le_of_eq (Nat.zero_add _)
  refine lv_aload_n hx hb dL_share_0 rfl (lv_at hl 2 rfl) ?_
  refine lv_iconst (v := 0) hx hb dL_share_1 (by decide) ?_
  refine lv_aload_n hx hb dL_share_2 rfl (lv_at hl 0 rfl) ?_
  refine lv_iload_n hx hb dL_share_3 rfl (lv_at hl 1 rfl) ?_
  refine kct_i (vx_runV (As := [.int p1]) (rest := [.int 0, .ref o]) ⟨hx, hb, hml, hown, hts⟩ (mX5_share l hst D dA ad σ _ x mi p1 u mc ms hf) (cwV 1 hts gL_86 rfl rfl rfl (by decide +kernel) ⟨Nat.le_of_ble_eq_true rfl, Nat.le_of_ble_eq_true rfl⟩) (preVT_of hA hR hS hK hX hLX _) rfl rfl hl.1 rfl (lv_room (Nat.le_of_ble_eq_true rfl)) dL_share_4 ⟨hcap, hsap⟩) hA hR hS (fun k σ' ad' H locs ce q9 eu hka hLX hR hS h1 h2 h3 => ?_) (fun r σ' ad' H locs eu hka hLX hR hS => ?_)
  · have hk1 := hk _ _ eu
    subst eu
    subst hk1
    refine vx_catch (E := exN 1) (name := exN 1) hown [] ⟨0, 9, 12, 13⟩ [] (htab.trans rfl) (fun z hz => nomatch hz) (by decide) (by decide) (hts _ q_465) (va_Nw.use rfl (hK.2 _ q_478)) h1 h2 h3 ?_
    refine lv_astore_n (lv' := [(3, .ref q9), (0, .ref (ad 0 0)), (1, .int p1), (2, .ref o)]) hx hb dL_share_12 rfl hl (by decide) rfl (fun ls hl => ?_)
    refine lv_iconst (v := 1) hx hb dL_share_13 (by decide) ?_
    exact rett_i hC ⟨rfl, rfl⟩ hka hLX hR hS hcap hsap dL_share_14
  · subst eu
    refine lv_i2l hx hb dL_share_7 rfl ?_
    refine ww_last hx hb hK.1 hR hS 1 (f := 20) (j := 0) (cvT_o _) (cA := dA 1) (n := 1) (fa := v) rfl rfl (show ¬ ((0 : Int32) < 0 ∨ 1 ≤ (0 : Int32).toNatClampNeg) by decide) dL_share_8 (fun H locs hR hS => ?_)
    have hR := HT_put _ hR
    refine lv_goto (tgt := 15) hx hb dL_share_9 (by decide) ?_
    refine lv_iconst (v := 0) hx hb dL_share_15 (by decide) ?_
    exact rett_i hC ⟨rfl, rfl⟩ hka hLX hR hS hcap hsap dL_share_16
