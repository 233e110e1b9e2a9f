/-! CALLS: the words that every method has, a method's beginning and end, and what a call leaves, over a world -/
abbrev vin (i : Int32) (n : Nat) : Prop := ¬ (i < 0 ∨ n ≤ i.toNatClampNeg)
theorem vin_lt {i : Int32} {n : Nat} (h : vin i n) : i.toNatClampNeg < n := Nat.not_le.mp fun q => h (Or.inr q)
def oc {α β : Type} (x : Option α) (a : β) (b : α → β) : β := match x with
  | none => a
  | some k => b k
theorem oc_n {α β : Type} {a o : β} {b : α → β} (h : oc (none : Option α) a b = o) : a = o := h
theorem oc_s {α β : Type} {a o : β} {b : α → β} {k : α} (h : oc (some k) a b = o) : b k = o := h
abbrev bz (v : Int32) : Prop := v = 0 ∨ v = 1
theorem bz_nar {v : Int32} (h : bz v) : narrow .boolean (.int v) = .int v := by rcases h with rfl | rfl <;> rfl
theorem bz_fit {v : Int32} (h : bz v) : fits .boolean (.int v) = true := by rcases h with rfl | rfl <;> rfl
theorem bz_vp {v : Int32} (h : bz v) : vp_nar .boolean v = v := by rcases h with rfl | rfl <;> decide
/-- the lists are in order: their rows hold them, their objects are there -/
abbrev lok0 (σ : St) : Prop := gN σ 0 ≤ gN σ 2 ∧ gN σ 0 ≤ gN σ 5 ∧ gN σ 2 < 2 ^ 31
abbrev lok1 (σ : St) : Prop := gN σ 1 ≤ gN σ 3 ∧ gN σ 1 ≤ gN σ 6 ∧ gN σ 3 < 2 ^ 31
theorem vin_mono {i : Int32} {n c : Nat} (h : vin i n) (hc : n ≤ c) : vin i c := fun q => q.elim (fun q => h (Or.inl q)) (fun q => h (Or.inr (Nat.le_trans hc q)))
abbrev sameN (a b : St) : Prop := gN a 0 = gN b 0 ∧ gN a 1 = gN b 1 ∧ gN a 2 = gN b 2 ∧ gN a 3 = gN b 3 ∧ gN a 4 = gN b 4 ∧ gN a 5 = gN b 5 ∧ gN a 6 = gN b 6
def WU : List Cond := lw_tbl.filter goodWord
theorem lw_in0 {w : Cond} (h : w ∈ k2_sels lw_privs) : w ∈ lw_tbl := List.mem_append_left _ h
theorem lw_in1 {w : Cond} (h : w ∈ tables_1_1) : w ∈ lw_tbl := List.mem_append_right _ (List.mem_append_left _ h)
theorem lw_in2 {w : Cond} (h : w ∈ tables_1_2) : w ∈ lw_tbl := List.mem_append_right _ (List.mem_append_right _ (List.mem_append_left _ h))
theorem lw_in3 {w : Cond} (h : w ∈ tables_1_3) : w ∈ lw_tbl := List.mem_append_right _ (List.mem_append_right _ (List.mem_append_right _ (List.mem_append_left _ h)))
theorem lw_in4 {w : Cond} (h : w ∈ tables_1_4) : w ∈ lw_tbl := List.mem_append_right _ (List.mem_append_right _ (List.mem_append_right _ (List.mem_append_right _ h)))
theorem wu_mem {w : Cond} (h : w ∈ lw_tbl) (hg : goodWord w = true) : w ∈ WU := List.mem_filter.mpr ⟨h, hg⟩
theorem wu_one {w : Cond} (h : w ∈ WU) : w ∈ WU ∧ ((w.onTables && w.keeps) = true ∨ ∃ ty, w = .arrayClass ty) := ⟨h, good_of_word (List.mem_filter.mp h).2⟩
def nestW : Cond → Bool
  | .fieldLinkNest _ _ _ _ _ _ => true
  | .methodLinkNest _ _ _ _ => true
  | .castable _ _ => true
  | .declares _ => true
  | .arrayOver (.object _) => true
  | _ => false
def NWL : List Cond := lw_tbl.filter nestW
theorem nwl_mem {w : Cond} (h : w ∈ lw_tbl) (hg : nestW w = true) : w ∈ NWL := List.mem_filter.mpr ⟨h, hg⟩
/-- the tables' words on nest mates and on casts, at a state -/
def NW (U : State) : Prop := ∀ w ∈ NWL, va_Nw w U
theorem NW_warm {s U : State} (hW : s.WarmedH U.vm) (h : NW s) : NW U := fun w hw => by
  have h1 := h w hw
  have h2 := (List.mem_filter.mp hw).2
  unfold nestW at h2
  split at h2
  · exact va_Nw.warmF hW h1
  · exact va_Nw.warmM hW h1
  · exact va_Nw.warmC hW h1
  · exact va_Nw.warmD hW h1
  · exact va_AO.moved hW.alike h1
  · cases h2
theorem nw_f {own ref n d host : String} {i : Nat} {args : Array Value} {s : State} (h : NW s) (hw : Cond.fieldLinkNest own i ref n d host ∈ NWL) : (Cond.fieldLinkNest own i ref n d host).before args s = true := va_Nw.use rfl (h _ hw)
abbrev KS (D : va_G) (dA : Nat → ClassId) (U : State) : Prop := va_K D vwCl (TYs dA) U ∧ NW U
theorem KS_warm {D : va_G} {dA : Nat → ClassId} {s U : State} (hW : s.WarmedH U.vm) (h : KS D dA s) : KS D dA U := ⟨va_K.moved hW.alike h.1, NW_warm hW h.2⟩
theorem KS_calling {D : va_G} {dA : Nat → ClassId} {U : State} {g : JFrame} {mk : MethodId} {a : Array Value} (h : KS D dA U) : KS D dA (U.calling g mk a) := ⟨va_K.moved (u := U) (U := U.calling g mk a) (Vm.Alike.refl U.vm) h.1, NW_warm (s := U) (U := U.calling g mk a) (State.WarmedH.refl U) h.2⟩
def WSy (y : MethodName) (cc : ByteArray) (n : Nat) (ret : Option FieldType) : List Cond := Cond.code y cc n ret :: WU
theorem gV_of {own C : String} {idx : Nat} {y : MethodName} {cc : ByteArray} {n : Nat} {ret : Option FieldType} (h1 : Cond.methodLink own idx y ∈ WU) (h2 : Cond.instanceMethod y ∈ WU) (h3 : Cond.selects C y y ∈ WU) (h4 : Cond.initialized C ∈ WU) (h5 : Cond.code y cc n ret ∈ WU) : GoodIn WU (wsV own idx C y (WSy y cc n ret)) := by
  intro w hw
  unfold wsV WSy at hw
  rcases List.mem_cons.mp hw with rfl | hw
  · exact wu_one h1
  rcases List.mem_cons.mp hw with rfl | hw
  · exact wu_one h2
  rcases List.mem_cons.mp hw with rfl | hw
  · exact wu_one h3
  rcases List.mem_cons.mp hw with rfl | hw
  · exact wu_one h4
  rcases List.mem_cons.mp hw with rfl | hw
  · exact wu_one h5
  exact wu_one hw
theorem gS_of {own : String} {idx : Nat} {y : MethodName} {cc : ByteArray} {n : Nat} {ret : Option FieldType} (h1 : Cond.methodLink own idx y ∈ WU) (h2 : Cond.static y ∈ WU) (h4 : Cond.initialized y.cls ∈ WU) (h5 : Cond.code y cc n ret ∈ WU) : GoodIn WU (va_wsS own idx y (WSy y cc n ret)) := by
  intro w hw
  unfold va_wsS WSy at hw
  rcases List.mem_cons.mp hw with rfl | hw
  · exact wu_one h1
  rcases List.mem_cons.mp hw with rfl | hw
  · exact wu_one h2
  rcases List.mem_cons.mp hw with rfl | hw
  · exact wu_one h4
  rcases List.mem_cons.mp hw with rfl | hw
  · exact wu_one h5
  exact wu_one hw
abbrev CTX (p : Program) (s : State) (m : MethodId) (args : Array Value) (meth : Method) (c : Code) (cc : ByteArray) (nL : Nat) (own : String) (ret : Option FieldType) : Prop :=
  p.tables.exec = Jvm.exec ∧ c.code = cc ∧ c.maxLocals = nL ∧ s.vm.findClass own = some m.cls ∧ (∀ w ∈ WU, w.before args s = true) ∧ meth.sig.returnType = ret ∧ meth.locks = false
theorem met_of {l : Launch} {y : MethodName} {cc : ByteArray} {maxL : Nat} {ret : Option FieldType} {rm : Room} {Qc : Array Value → State → Outcome → State → Prop} {mc ms : Nat} {free : Addr → Prop} {as : List Value} {Bp : State → Prop} (hy : plainName y.cls = true) (hlen : (lg_sl as).length ≤ maxL)
    (body : ∀ (p : Program) (e : Env) (s : State) (m : MethodId) (below : List Frame) (meth : Method) (c : Code) (ls : Array Slot), CTX p s m as.toArray meth c cc maxL y.cls ret → Bp s → lv_has ls maxL (lv_args 0 as) →
      W p l e rm s m as.toArray below meth c s.heap [] 0 0 (MQ below Qc as.toArray s mc ms free) (F0 m 0 ls [])) : Met l y (WSy y cc maxL ret) rm (va_Pc as Bp) Qc mc ms free := by
  refine Met.ofW (cc := cc) (maxL := maxL) (ret := ret) hy rfl ?_
  intro p e s m args below meth c s₁ B hml hv
  obtain ⟨rfl, hB⟩ := hv
  have hts0 := atoms_spec (ws := WSy y cc maxL ret) B.pre
  rw [lg_entry_eq]
  exact body p e s m below meth c _ ⟨B.exec, B.bytes, hml, findClass_of_methodNamed B.named, fun w h => hts0 w (List.mem_cons_of_mem _ h), B.returns, B.notSynchronized⟩ hB (lv_entry as hlen)
theorem met_ofI {l : Launch} {y : MethodName} {cc : ByteArray} {maxL : Nat} {ret : Option FieldType} {rm : Room} {Qc : Array Value → State → Outcome → State → Prop} {mc ms : Nat} {free : Addr → Prop} {as : List Value} {Bp : State → Prop} (hy : plainName y.cls = true) (hlen : (lg_sl as).length ≤ maxL)
    (body : ∀ (p : Program) (e : Env) (s : State) (m : MethodId) (below : List Frame) (meth : Method) (c : Code) (ls : Array Slot), CTX p s m as.toArray meth c cc maxL y.cls ret → meth.name = y.name → Bp s → lv_has ls maxL (lv_args 0 as) →
      W p l e rm s m as.toArray below meth c s.heap [] 0 0 (MQ below Qc as.toArray s mc ms free) (F0 m 0 ls [])) : Met l y (WSy y cc maxL ret) rm (va_Pc as Bp) Qc mc ms free := by
  refine Met.ofW (cc := cc) (maxL := maxL) (ret := ret) hy rfl ?_
  intro p e s m args below meth c s₁ B hml hv
  obtain ⟨rfl, hB⟩ := hv
  have hts0 := atoms_spec (ws := WSy y cc maxL ret) B.pre
  rw [lg_entry_eq]
  exact body p e s m below meth c _ ⟨B.exec, B.bytes, hml, findClass_of_methodNamed B.named, fun w h => hts0 w (List.mem_cons_of_mem _ h), B.returns, B.notSynchronized⟩ (name_of_methodNamed B.named B.method).1 hB (lv_entry as hlen)
theorem gN_of {y : MethodName} {cc : ByteArray} {n : Nat} {ret : Option FieldType} (h5 : Cond.code y cc n ret ∈ WU) : GoodIn WU (WSy y cc n ret) := by
  intro w hw
  unfold WSy at hw
  rcases List.mem_cons.mp hw with rfl | hw
  · exact wu_one h5
  exact wu_one hw
section WCA
variable {p : Program} {l : Launch} {e : Env} {R : Room} {s : State} {m : MethodId} {args : Array Value} {below : List Frame} {meth : Method} {c : Code} {H : Heap} {locs : List Loc} {cells slots : Nat} {Q : State → Prop}
variable {cc : ByteArray} {pc nL : Nat} {own : String} {ls : Array Slot} {rest st0 : List Value} {D : va_G} {cl : List vw_C} {tys : List (ClassId × FieldType)} {A0 : Nat → Prop} {ad : Nat → Nat → Nat} {cv cv' : Nat → Nat → Prop} {ct ct' : Nat → Nat → va_E} {H0 : Heap} {a : Array Value} {mc ms : Nat}
theorem preV_of {dA : Nat → ClassId} (hR : WW D vwCl A0 ad cv ct H) (hK : KS D dA s) {f i ci : Nat} {q : vw_C} {fs : List Value} (hv : cv f i) (he : ct f i = .inr (ci, fs)) (hc : vwCl[ci]? = some q) (As : List Value) : PreV s H q.1 (ad f i) (va_Pc (.ref (ad f i) :: As) (fun U => U.heap.size = H.size ∧ WW D vwCl (fun _ => True) ad cv ct U.heap ∧ KS D dA U)) As := by
  refine ⟨fun a U g mk q => ?_, ?_, fun U hU hW => ⟨rfl, by rw [hU], by rw [hU]; exact WW_weaken hR (fun _ _ => trivial), KS_warm hW hK⟩⟩
  · obtain ⟨q0, q1, qP, qK⟩ := q
    exact ⟨q0, q1, qP, KS_calling qK⟩
  · have h1 := WW_one hR hv
    rw [he] at h1
    exact va_recv hK.1 h1 (q0 := 0) hc rfl
theorem preS_of {dA : Nat → ClassId} (hR : WW D vwCl A0 ad cv ct H) (hK : KS D dA s) (As : List Value) : PreS s H (va_Pc As (fun U => U.heap.size = H.size ∧ WW D vwCl (fun _ => True) ad cv ct U.heap ∧ KS D dA U)) As := by
  refine ⟨fun a U g mk q => ?_, fun U hU hW => ⟨rfl, by rw [hU], by rw [hU]; exact WW_weaken hR (fun _ _ => trivial), KS_warm hW hK⟩⟩
  obtain ⟨q0, q1, qP, qK⟩ := q
  exact ⟨q0, q1, qP, KS_calling qK⟩
theorem wa_fits (hA : ∀ q, H0.size ≤ q → A0 q) (hR : WW D cl A0 ad cv ct H) (hS : va_S A0 H0 H locs) {q : Nat} (h : WA ad cv H.size q) : A0 q := by
  rcases h with ⟨f, i, hv, rfl⟩ | h
  · exact WW_A hR hv
  · exact hA q (Nat.le_trans hS.1 h)
theorem kc_i {r : Int32} (hr : va_Run p l e R s m args below meth c H locs cells slots 0 0 (F0 m pc ls st0) rest (va_Qi (fun (x : Int32) (_ : Unit) => x = r) (fun _ t => WW D cl (WA ad cv H.size) ad cv' ct' t.heap) (WA ad cv H.size) a) (WA ad cv H.size)) (hA : ∀ q, H0.size ≤ q → A0 q) (hR : WW D cl A0 ad cv ct H) (hS : va_S A0 H0 H locs)
    (kk : ∀ (H1 : Heap) (locs1 : List Loc), WW D cl A0 ad cv' ct' H1 → va_S A0 H0 H1 locs1 → W p l e R s m args below meth c H1 locs1 cells slots Q (F0 m (pc + 3) ls (.int r :: rest))) : W p l e R s m args below meth c H locs cells slots Q (F0 m pc ls st0) :=
  va_calli hr hS (fun q _ h => wa_fits hA hR hS h) (fun q h => wa_fits hA hR hS h) (fun r' u t H1 locs1 ht hvm hw hB hz hk hS1 => by
    subst hw
    rw [ht] at hB
    exact kk H1 locs1 (WW_weaken hB (fun q h => wa_fits hA hR hS h)) hS1)
theorem kc_l {r : Int64} (hr : va_Run p l e R s m args below meth c H locs cells slots 0 0 (F0 m pc ls st0) rest (va_Ql (fun (x : Int64) (_ : Unit) => x = r) (fun _ t => WW D cl (WA ad cv H.size) ad cv' ct' t.heap) (WA ad cv H.size) a) (WA ad cv H.size)) (hA : ∀ q, H0.size ≤ q → A0 q) (hR : WW D cl A0 ad cv ct H) (hS : va_S A0 H0 H locs)
    (kk : ∀ (H1 : Heap) (locs1 : List Loc), WW D cl A0 ad cv' ct' H1 → va_S A0 H0 H1 locs1 → W p l e R s m args below meth c H1 locs1 cells slots Q (F0 m (pc + 3) ls (.long r :: rest))) : W p l e R s m args below meth c H locs cells slots Q (F0 m pc ls st0) :=
  va_calll hr hS (fun q _ h => wa_fits hA hR hS h) (fun q h => wa_fits hA hR hS h) (fun r' u t H1 locs1 ht hvm hw hB hz hk hS1 => by
    subst hw
    rw [ht] at hB
    exact kk H1 locs1 (WW_weaken hB (fun q h => wa_fits hA hR hS h)) hS1)
theorem kc_v (hr : va_Run p l e R s m args below meth c H locs cells slots 0 0 (F0 m pc ls st0) rest (va_Qv (fun (_ : Unit) => True) (fun _ t => WW D cl (WA ad cv H.size) ad cv' ct' t.heap) (WA ad cv H.size) a) (WA ad cv H.size)) (hA : ∀ q, H0.size ≤ q → A0 q) (hR : WW D cl A0 ad cv ct H) (hS : va_S A0 H0 H locs)
    (kk : ∀ (H1 : Heap) (locs1 : List Loc), WW D cl A0 ad cv' ct' H1 → va_S A0 H0 H1 locs1 → W p l e R s m args below meth c H1 locs1 cells slots Q (F0 m (pc + 3) ls rest)) : W p l e R s m args below meth c H locs cells slots Q (F0 m pc ls st0) :=
  va_callv hr hS (fun q _ h => wa_fits hA hR hS h) (fun q h => wa_fits hA hR hS h) (fun u t H1 locs1 ht hvm hw hB hz hk hS1 => by
    rw [ht] at hB
    exact kk H1 locs1 (WW_weaken hB (fun q h => wa_fits hA hR hS h)) hS1)
theorem kc_q {r : Option Nat} {f : Nat} (hr : va_Run p l e R s m args below meth c H locs cells slots 0 0 (F0 m pc ls st0) rest (va_Qq (fun (x : Option Nat) (_ : Unit) => x = r.map (ad f)) (fun _ t => WW D cl (WA ad cv H.size) ad cv' ct' t.heap) (WA ad cv H.size) a) (WA ad cv H.size)) (hA : ∀ q, H0.size ≤ q → A0 q) (hR : WW D cl A0 ad cv ct H) (hS : va_S A0 H0 H locs)
    (kk : ∀ (H1 : Heap) (locs1 : List Loc), WW D cl A0 ad cv' ct' H1 → va_S A0 H0 H1 locs1 → W p l e R s m args below meth c H1 locs1 cells slots Q (F0 m (pc + 3) ls (va_re (ad f) r :: rest))) : W p l e R s m args below meth c H locs cells slots Q (F0 m pc ls st0) :=
  va_callq hr hS (fun q _ h => wa_fits hA hR hS h) (fun q h => wa_fits hA hR hS h) (fun r' u t H1 locs1 ht hvm hw hB hz hk hS1 => by
    subst hw
    rw [ht] at hB
    exact kk H1 locs1 (WW_weaken hB (fun q h => wa_fits hA hR hS h)) hS1)
theorem ret_i {v : Int32} (hC : CTX p s m args meth c cc nL own (some .int)) (hR : WW D cl A0 ad cv ct H) (hS : va_S A0 s.heap H locs) (hdg : decode cc pc = .ok (.ireturn, 1)) :
    W p l e R s m args below meth c H locs cells slots (MQ below (va_Qi (fun (x : Int32) (_ : Unit) => x = v) (fun _ t => WW D cl A0 ad cv ct t.heap) A0) args s cells slots A0) (F0 m pc ls [.int v]) :=
  W.iret hC.1 hC.2.1 hC.2.2.2.2.2.1 (fun t ht hW => ⟨⟨v, (), rfl, rfl, by show WW D cl A0 ad cv ct t.heap; rw [ht]; exact hR⟩, hS.F ht⟩) hS.2.2 hdg hC.2.2.2.2.2.2
theorem ret_z {v : Int32} (hC : CTX p s m args meth c cc nL own (some .boolean)) (hR : WW D cl A0 ad cv ct H) (hS : va_S A0 s.heap H locs) (hv : bz v) (hdg : decode cc pc = .ok (.ireturn, 1)) :
    W p l e R s m args below meth c H locs cells slots (MQ below (va_Qi (fun (x : Int32) (_ : Unit) => x = v) (fun _ t => WW D cl A0 ad cv ct t.heap) A0) args s cells slots A0) (F0 m pc ls [.int v]) :=
  W.zret hC.1 hC.2.1 hC.2.2.2.2.2.1 (bz_nar hv) (fun t ht hW => ⟨⟨v, (), rfl, rfl, by show WW D cl A0 ad cv ct t.heap; rw [ht]; exact hR⟩, hS.F ht⟩) hS.2.2 hdg hC.2.2.2.2.2.2
theorem ret_l {v : Int64} (hC : CTX p s m args meth c cc nL own (some .long)) (hR : WW D cl A0 ad cv ct H) (hS : va_S A0 s.heap H locs) (hdg : decode cc pc = .ok (.lreturn, 1)) :
    W p l e R s m args below meth c H locs cells slots (MQ below (va_Ql (fun (x : Int64) (_ : Unit) => x = v) (fun _ t => WW D cl A0 ad cv ct t.heap) A0) args s cells slots A0) (F0 m pc ls [.long v]) :=
  W.lret hC.1 hC.2.1 hC.2.2.2.2.2.1 (fun t ht hW => ⟨⟨v, (), rfl, rfl, by show WW D cl A0 ad cv ct t.heap; rw [ht]; exact hR⟩, hS.F ht⟩) hS.2.2 hdg hC.2.2.2.2.2.2
theorem ret_v (hC : CTX p s m args meth c cc nL own none) (hR : WW D cl A0 ad cv ct H) (hS : va_S A0 s.heap H locs) (hdg : decode cc pc = .ok (.return_, 1)) :
    W p l e R s m args below meth c H locs cells slots (MQ below (va_Qv (fun (_ : Unit) => True) (fun _ t => WW D cl A0 ad cv ct t.heap) A0) args s cells slots A0) (F0 m pc ls []) :=
  W.vret hC.1 hC.2.1 hC.2.2.2.2.2.1 (fun t ht hW => ⟨⟨(), rfl, trivial, by show WW D cl A0 ad cv ct t.heap; rw [ht]; exact hR⟩, hS.F ht⟩) hS.2.2 hdg hC.2.2.2.2.2.2
theorem ret_q {r : Option Nat} {f : Nat} {n : String} (hC : CTX p s m args meth c cc nL own (some (.object n))) (hR : WW D cl A0 ad cv ct H) (hS : va_S A0 s.heap H locs) (hdg : decode cc pc = .ok (.areturn, 1)) :
    W p l e R s m args below meth c H locs cells slots (MQ below (va_Qq (fun (x : Option Nat) (_ : Unit) => x = r.map (ad f)) (fun _ t => WW D cl A0 ad cv ct t.heap) A0) args s cells slots A0) (F0 m pc ls [va_re (ad f) r]) :=
  W.aret hC.1 hC.2.1 hC.2.2.2.2.2.1 (Or.inl ⟨n, rfl⟩) (by cases r with
    | none => exact Or.inl rfl
    | some k => exact Or.inr ⟨_, rfl⟩) (fun t ht hW => ⟨⟨r.map (ad f), (), rfl, rfl, by show WW D cl A0 ad cv ct t.heap; rw [ht]; exact hR⟩, hS.F ht⟩) hS.2.2 hdg hC.2.2.2.2.2.2
end WCA
