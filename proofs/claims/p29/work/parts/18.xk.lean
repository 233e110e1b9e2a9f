/-! methods that may throw: what a call leaves when it throws, over the class's world (laid by wip/gen/genx.py) -/
def exN : Nat → String
  | 1 => "java/lang/IllegalArgumentException"
  | 2 => "java/lang/IllegalStateException"
  | 3 => "java/lang/IndexOutOfBoundsException"
  | _ => "java/util/NoSuchElementException"
def xNames : List String := ["java/lang/RuntimeException", "java/lang/Exception"]
/-- an outcome: an exception (its number, the state), or an answer -/
abbrev XO (β : Type) := Sum (Nat × St) β
def xb {α β : Type} (x : Option (XO α × Nat × Nat)) (k : α → Option (XO β × Nat × Nat)) : Option (XO β × Nat × Nat) := match x with
  | none => none
  | some (.inl e, c, s) => some (.inl e, c, s)
  | some (.inr a, c, s) => tk c s (k a)
theorem xb_of {α β : Type} {x : Option (XO α × Nat × Nat)} {k : α → Option (XO β × Nat × Nat)} {o : XO β} {m n : Nat} (h : xb x k = some (o, m, n)) : (∃ e m1 n1, x = some (.inl e, m1, n1) ∧ o = .inl e ∧ m = m1 ∧ n = n1) ∨ ∃ a m1 n1 m2 n2, x = some (.inr a, m1, n1) ∧ k a = some (o, m2, n2) ∧ m = m1 + m2 ∧ n = n1 + n2 := by
  cases x with
  | none => cases h
  | some q =>
    obtain ⟨a, m1, n1⟩ := q
    cases a with
    | inl e => cases h; exact Or.inl ⟨e, _, _, rfl, rfl, rfl, rfl⟩
    | inr a =>
      obtain ⟨m', n', h1, h2, h3⟩ := tk_of h
      exact Or.inr ⟨a, m1, n1, m', n', rfl, h1, h2, h3⟩
def atB (L : List Cond) (is : List Nat) : Bool := decide (L.length = is.length) && (L.zip is).all (fun q => decide (lw_tbl[q.2]? = some q.1) && (goodWord q.1 || nestW q.1))
theorem atB_in {L : List Cond} {is : List Nat} (h : atB L is = true) {w : Cond} (hw : w ∈ L) : w ∈ lw_tbl ∧ (goodWord w || nestW w) = true := by
  unfold atB at h
  simp only [Bool.and_eq_true, decide_eq_true_eq, List.all_eq_true] at h
  obtain ⟨k, hk, rfl⟩ := List.getElem_of_mem hw
  have hk2 : k < is.length := by omega
  have h1 := h.2 (L[k], is[k]) (List.mem_iff_getElem.mpr ⟨k, by simp; omega, by simp⟩)
  exact ⟨List.mem_of_getElem? h1.1, h1.2⟩
theorem nw_ot {w : Cond} (h : (goodWord w || nestW w) = true) (hn : ∀ T, w ≠ .arrayOver T) : vx_ot w = true := by
  unfold vx_ot
  rcases Bool.or_eq_true_iff.mp h with h | h
  · simp [h]
  · unfold nestW at h
    split at h
    · rfl
    · rfl
    · rfl
    · rfl
    · exact absurd rfl (hn _)
    · cases h
abbrev QXi (o : XO (Int32 × St)) (D : va_G) (dA : Nat → ClassId) (X : List Nat) (ad : Nat → Nat → Nat) (σ : St) (x : Nat) (A : Nat → Prop) := va_Qi (fun (z : Int32) (u : (Nat → Nat → Nat) × St) => o = .inr (z, u.2) ∧ KA X ad u.1 σ u.2 ∧ LX u.1 u.2 x) (fun u t => HC D dA A u.1 u.2 t.heap) A
abbrev QXv (o : XO St) (D : va_G) (dA : Nat → ClassId) (X : List Nat) (ad : Nat → Nat → Nat) (σ : St) (x : Nat) (A : Nat → Prop) := va_Qv (fun (u : (Nat → Nat → Nat) × St) => o = .inr u.2 ∧ KA X ad u.1 σ u.2 ∧ LX u.1 u.2 x) (fun u t => HC D dA A u.1 u.2 t.heap) A
abbrev XXC {β : Type} (o : XO β) (D : va_G) (dA : Nat → ClassId) (X : List Nat) (ad : Nat → Nat → Nat) (σ : St) (x : Nat) (A : Nat → Prop) := vx_X (fun (u : (Nat → Nat → Nat) × Nat × St) => o = .inl u.2 ∧ KA X ad u.1 σ u.2.2 ∧ LX u.1 u.2.2 x) (fun E u t => E = exN u.2.1 ∧ HC D dA A u.1 u.2.2 t.heap) A
theorem metx_of {l : Launch} {y : MethodName} {cc : ByteArray} {maxL : Nat} {ret : Option FieldType} {rm : Room} {Qc : Array Value → State → Outcome → State → Prop} {XC : String → State → State → Prop} {mc ms : Nat} {free : Addr → Prop} {as : List Value} {Bp : State → Prop} (hy : plainName y.cls = true) (hlen : (lg_sl as).length ≤ maxL)
    (body : ∀ (p : Program) (e : Env) (s : State) (m : MethodId) (below : List Frame) (meth : Method) (c : Code) (ls : Array Slot), CTX p s m as.toArray meth c cc maxL y.cls ret → (∀ x ∈ c.exceptionTable.toList, False) → Bp s → lv_has ls maxL (lv_args 0 as) →
      W p l e rm s m as.toArray below meth c s.heap [] 0 0 (vx_MQ below Qc XC as.toArray s mc ms free) (F0 m 0 ls [])) : vx_Met l y (WSy y cc maxL ret) rm (va_Pc as Bp) Qc XC mc ms free := by
  refine vx_ofW (cc := cc) (maxL := maxL) (ret := ret) hy rfl ?_
  intro p e s m args below meth c s₁ B hml hE hv
  obtain ⟨rfl, hB⟩ := hv
  have hts0 := atoms_spec (ws := WSy y cc maxL ret) B.pre
  rw [lg_entry_eq]
  exact body p e s m below meth c _ ⟨B.exec, B.bytes, hml, findClass_of_methodNamed B.named, fun w h => hts0 w (List.mem_cons_of_mem _ h), B.returns, B.notSynchronized⟩ hE hB (lv_entry as hlen)
theorem WW_grow {D : va_G} {cl : List vw_C} {A : Nat → Prop} {ad : Nat → Nat → Nat} {cv : Nat → Nat → Prop} {ct : Nat → Nat → va_E} {H H1 : Heap} (h : WW D cl A ad cv ct H) (hk : ∀ q : Nat, q < H.size → H1[q]? = H[q]?) : WW D cl A ad cv ct H1 := by
  obtain ⟨⟨L, fn, hP, hD, hc⟩, hi⟩ := h
  exact ⟨⟨L, fn, fun k q hq => (hP k q hq).kept (hk _ (hP k q hq).lt), hD, hc⟩, hi⟩
section XK
variable {p : Program} {l : Launch} {e : Env} {R : Room} {s : State} {m : MethodId} {args : Array Value} {below : List Frame} {meth : Method} {c : Code} {H : Heap} {locs : List Loc} {cells slots : Nat} {Q : State → Prop}
variable {cc : ByteArray} {pc nL : Nat} {own : String} {ret : Option FieldType} {ls : Array Slot} {rest st0 : List Value} {D : va_G} {dA : Nat → ClassId} {A0 : Nat → Prop} {ad ad0 : Nat → Nat → Nat} {σ σ0 : St} {a : Array Value} {mc ms MC MS x mi : Nat} {X Y : List Nat}
variable {Qc : Array Value → State → Outcome → State → Prop} {XC : String → State → State → Prop} {β : Type}
theorem retx_i {v : Int32} (hC : CTX p s m args meth c cc nL own (some .int)) (hKA : KA X ad0 ad σ0 σ) (hLX : LX ad σ x) (hR : HC D dA A0 ad σ H) (hS : va_S A0 s.heap H locs) (hc : cells ≤ MC) (hs : slots ≤ MS) (hdg : decode cc pc = .ok (.ireturn, 1)) :
    W p l e R s m args below meth c H locs cells slots (vx_MQ below (QXi (.inr (v, σ)) D dA X ad0 σ0 x A0) XC args s MC MS A0) (F0 m pc ls [.int v]) :=
  vx_ret (W.widen hc hs (W.iret hC.1 hC.2.1 hC.2.2.2.2.2.1 (fun t ht hW => ⟨⟨v, (ad, σ), rfl, ⟨rfl, hKA, hLX⟩, by show HC D dA A0 ad σ t.heap; rw [ht]; exact hR⟩, hS.F ht⟩) hS.2.2 hdg hC.2.2.2.2.2.2))
theorem retx_z {v : Int32} (hv : bz v) (hC : CTX p s m args meth c cc nL own (some .boolean)) (hKA : KA X ad0 ad σ0 σ) (hLX : LX ad σ x) (hR : HC D dA A0 ad σ H) (hS : va_S A0 s.heap H locs) (hc : cells ≤ MC) (hs : slots ≤ MS) (hdg : decode cc pc = .ok (.ireturn, 1)) :
    W p l e R s m args below meth c H locs cells slots (vx_MQ below (QXi (.inr (v, σ)) D dA X ad0 σ0 x A0) XC args s MC MS A0) (F0 m pc ls [.int v]) :=
  vx_ret (W.widen hc hs (W.zret hC.1 hC.2.1 hC.2.2.2.2.2.1 (bz_nar hv) (fun t ht hW => ⟨⟨v, (ad, σ), rfl, ⟨rfl, hKA, hLX⟩, by show HC D dA A0 ad σ t.heap; rw [ht]; exact hR⟩, hS.F ht⟩) hS.2.2 hdg hC.2.2.2.2.2.2))
theorem retx_v (hC : CTX p s m args meth c cc nL own none) (hKA : KA X ad0 ad σ0 σ) (hLX : LX ad σ x) (hR : HC D dA A0 ad σ H) (hS : va_S A0 s.heap H locs) (hc : cells ≤ MC) (hs : slots ≤ MS) (hdg : decode cc pc = .ok (.return_, 1)) :
    W p l e R s m args below meth c H locs cells slots (vx_MQ below (QXv (.inr σ) D dA X ad0 σ0 x A0) XC args s MC MS A0) (F0 m pc ls []) :=
  vx_ret (W.widen hc hs (W.vret hC.1 hC.2.1 hC.2.2.2.2.2.1 (fun t ht hW => ⟨⟨(ad, σ), rfl, ⟨rfl, hKA, hLX⟩, by show HC D dA A0 ad σ t.heap; rw [ht]; exact hR⟩, hS.F ht⟩) hS.2.2 hdg hC.2.2.2.2.2.2))
theorem thrx (k : Nat) {ik ic : Nat} {is : List Nat} (hC : CTX p s m args meth c cc nL RX5 ret) (hE : ∀ x ∈ c.exceptionTable.toList, False) (hst : l.stackTraces = false) (hK : KS D dA s) (hX : EXT x mi A0 s s.heap) (hKA : KA X ad0 ad σ0 σ) (hLX : LX ad σ x) (hR : HC D dA A0 ad σ H) (hS : va_S A0 s.heap H locs)
    (hfit : Bundle.fit (exN k) = true) (hk : Cond.classLink RX5 ik (exN k) ∈ WU) (hi : Cond.initialized (exN k) ∈ WU) (hat : atB (vx_at0 RX5 ic (exN k) xNames) is = true) (hsz : ls.size = nL)
    (d0 : decode cc pc = .ok (.new ik, 3)) (d3 : decode cc (pc + 3) = .ok (.dup, 1)) (d4 : decode cc (pc + 4) = .ok (.invokespecial ic, 3)) (d7 : decode cc (pc + 7) = .ok (.athrow, 1))
    (hF : 5 < R.frames) (hL : (rest.map fun v => v.category).sum + 81 ≤ R.locals) (hRc : cells + 1 ≤ R.cells) (hRs : slots + 6 ≤ R.slots) (hc : cells + 1 ≤ MC) (hs : slots + 6 ≤ MS) :
    W p l e R s m args below meth c H locs cells slots (vx_MQ below Qc (XXC (.inl (k, σ) : XO β) D dA X ad0 σ0 x A0) args s MC MS A0) (F0 m pc ls rest) := by
  obtain ⟨hx, hb, hml, hown, hts, -, hlk⟩ := hC
  have hw : ∀ w ∈ vx_at0 RX5 ic (exN k) xNames, w.before args s = true := fun w hw => by
    obtain ⟨h1, h2⟩ := atB_in hat hw
    rcases Bool.or_eq_true_iff.mp h2 with h3 | h3
    · exact hts w (wu_mem h1 h3)
    · have h4 := hK.2 w (nwl_mem h1 h3)
      unfold nestW at h3
      split at h3
      · exact va_Nw.use rfl h4
      · exact va_Nw.use rfl h4
      · exact va_Nw.use rfl h4
      · exact va_Nw.use rfl h4
      · exact absurd hw (by simp [vx_at0, Bundle.ownAtoms0, Bundle.throwableAtoms, Bundle.chain0Atoms, Bundle.passAtoms, xNames])
      · cases h3
  have hg : ∀ w ∈ Cond.classLink RX5 ik (exN k) :: Cond.initialized (exN k) :: vx_at0 RX5 ic (exN k) xNames, vx_ot w = true := by
    intro w hw
    rcases List.mem_cons.mp hw with rfl | hw
    · rfl
    rcases List.mem_cons.mp hw with rfl | hw
    · rfl
    obtain ⟨h1, h2⟩ := atB_in hat hw
    refine nw_ot h2 (fun T e => ?_)
    subst e
    exact absurd hw (by simp [vx_at0, Bundle.ownAtoms0, Bundle.throwableAtoms, Bundle.chain0Atoms, Bundle.passAtoms, xNames])
  refine vx_throw0 (own := RX5) (cls := exN k) (names := xNames) (ik := ik) (ic := ic) (A := A0) hx hb hst hown hfit (by decide) (hts _ hk) (hts _ hi) hw hg hX.2.2.2.1 hX.2.2.2.2 hS (hsz.trans hml.symm) d0 d3 d4 d7 (fun q hq => absurd (hE q hq) not_false) hF hL hRc hRs hlk (fun t hal hz hq => ?_) hS.2.2 hc hs
  exact ⟨(ad, k, σ), ⟨rfl, hKA, hLX⟩, ⟨rfl, WW_grow hR hq⟩, Nat.le_trans hS.1 hz, fun q h1 h2 => (hq q (Nat.lt_of_lt_of_le h1 hS.1)).trans (hS.2.1 q h1 h2)⟩
/-- an exception that a call left goes on to the caller -/
theorem passx {E : String} {k : Nat} {σ1 : St} {ad1 : Nat → Nat → Nat} {ce : Cell} {q9 : Addr} (hC : CTX p s m args meth c cc nL own ret) (hE : ∀ x ∈ c.exceptionTable.toList, False) (hEk : E = exN k) (hKA : KA X ad0 ad1 σ0 σ1) (hLX : LX ad1 σ1 x) (hR : HC D dA A0 ad1 σ1 H) (hS : va_S A0 s.heap H locs)
    (hcell : H[q9]? = some ce) (hv : ce.vm = .none) (hcl : s.vm.findClass E = some ce.cls) (hc : cells ≤ MC) (hs : slots ≤ MS) :
    vx_W p l e R s m args below meth c H locs cells slots (vx_MQ below Qc (XXC (.inl (k, σ1) : XO β) D dA X ad0 σ0 x A0) args s MC MS A0) (F0 m pc ls rest) q9 :=
  vx_out (fun q hq => absurd (hE q hq) not_false) hC.2.2.2.2.2.2 hcell hv hcl (fun t ht hal => ⟨(ad1, k, σ1), ⟨rfl, hKA, hLX⟩, ⟨hEk, by show HC D dA A0 ad1 σ1 t.heap; rw [ht]; exact hR⟩, hS.F ht⟩) hS.2.2 hc hs
theorem kcx_i {o : XO (Int32 × St)} (hr : vx_Run p l e R s m args below meth c H locs cells slots mc ms (F0 m pc ls st0) rest (QXi o D dA X ad σ x (WA ad (cvC σ) H.size) a) (XXC o D dA X ad σ x (WA ad (cvC σ) H.size)) (WA ad (cvC σ) H.size)) (hA : ∀ q, s.heap.size ≤ q → A0 q) (hR : HC D dA A0 ad σ H) (hS : va_S A0 s.heap H locs)
    (kx : ∀ (k : Nat) (σ' : St) (ad' : Nat → Nat → Nat) (H1 : Heap) (locs1 : List Loc) (E : String) (ce : Cell) (q9 : Addr), o = .inl (k, σ') → E = exN k → KA X ad ad' σ σ' → LX ad' σ' x → HC D dA A0 ad' σ' H1 → va_S A0 s.heap H1 locs1 → H1[q9]? = some ce → ce.vm = .none → s.vm.findClass E = some ce.cls → vx_W p l e R s m args below meth c H1 locs1 (cells + mc) (slots + ms) Q (F0 m pc ls rest) q9)
    (kk : ∀ (r : Int32) (σ' : St) (ad' : Nat → Nat → Nat) (H1 : Heap) (locs1 : List Loc), o = .inr (r, σ') → KA X ad ad' σ σ' → LX ad' σ' x → HC D dA A0 ad' σ' H1 → va_S A0 s.heap H1 locs1 → W p l e R s m args below meth c H1 locs1 (cells + mc) (slots + ms) Q (F0 m (pc + 3) ls (.int r :: rest))) : W p l e R s m args below meth c H locs cells slots Q (F0 m pc ls st0) :=
  vx_calli hr hS (fun q _ h => wa_fits hA hR hS h) (fun q h => wa_fits hA hR hS h) (fun q _ h => wa_fits hA hR hS h)
    (fun E ce q9 u t H1 locs1 ht hvm hu hB hz hk hS1 h1 h2 h3 => by
      obtain ⟨rfl, e1, e2⟩ := hu
      rw [ht] at hB
      exact kx u.2.1 u.2.2 u.1 H1 locs1 E ce q9 rfl hB.1 e1 e2 (WW_weaken hB.2 (fun q h => wa_fits hA hR hS h)) hS1 h1 h2 h3)
    (fun r u t H1 locs1 ht hvm hw hB hz hk hS1 => by
      obtain ⟨rfl, e1, e2⟩ := hw
      rw [ht] at hB
      exact kk r u.2 u.1 H1 locs1 rfl e1 e2 (WW_weaken hB (fun q h => wa_fits hA hR hS h)) hS1)
theorem kcx_v {o : XO St} (hr : vx_Run p l e R s m args below meth c H locs cells slots mc ms (F0 m pc ls st0) rest (QXv o D dA X ad σ x (WA ad (cvC σ) H.size) a) (XXC o D dA X ad σ x (WA ad (cvC σ) H.size)) (WA ad (cvC σ) H.size)) (hA : ∀ q, s.heap.size ≤ q → A0 q) (hR : HC D dA A0 ad σ H) (hS : va_S A0 s.heap H locs)
    (kx : ∀ (k : Nat) (σ' : St) (ad' : Nat → Nat → Nat) (H1 : Heap) (locs1 : List Loc) (E : String) (ce : Cell) (q9 : Addr), o = .inl (k, σ') → E = exN k → KA X ad ad' σ σ' → LX ad' σ' x → HC D dA A0 ad' σ' H1 → va_S A0 s.heap H1 locs1 → H1[q9]? = some ce → ce.vm = .none → s.vm.findClass E = some ce.cls → vx_W p l e R s m args below meth c H1 locs1 (cells + mc) (slots + ms) Q (F0 m pc ls rest) q9)
    (kk : ∀ (σ' : St) (ad' : Nat → Nat → Nat) (H1 : Heap) (locs1 : List Loc), o = .inr σ' → KA X ad ad' σ σ' → LX ad' σ' x → HC D dA A0 ad' σ' H1 → va_S A0 s.heap H1 locs1 → W p l e R s m args below meth c H1 locs1 (cells + mc) (slots + ms) Q (F0 m (pc + 3) ls rest)) : W p l e R s m args below meth c H locs cells slots Q (F0 m pc ls st0) :=
  vx_callv hr hS (fun q _ h => wa_fits hA hR hS h) (fun q h => wa_fits hA hR hS h) (fun q _ h => wa_fits hA hR hS h)
    (fun E ce q9 u t H1 locs1 ht hvm hu hB hz hk hS1 h1 h2 h3 => by
      obtain ⟨rfl, e1, e2⟩ := hu
      rw [ht] at hB
      exact kx u.2.1 u.2.2 u.1 H1 locs1 E ce q9 rfl hB.1 e1 e2 (WW_weaken hB.2 (fun q h => wa_fits hA hR hS h)) hS1 h1 h2 h3)
    (fun u t H1 locs1 ht hvm hw hB hz hk hS1 => by
      obtain ⟨rfl, e1, e2⟩ := hw
      rw [ht] at hB
      exact kk u.2 u.1 H1 locs1 rfl e1 e2 (WW_weaken hB (fun q h => wa_fits hA hR hS h)) hS1)
theorem kcx_vR {q : St} (hr : vx_Run p l e R s m args below meth c H locs cells slots mc ms (F0 m pc ls st0) rest (QXv (.inr q) D dA X ad σ x (WA ad (cvC σ) H.size) a) (XXC (.inr q : XO St) D dA X ad σ x (WA ad (cvC σ) H.size)) (WA ad (cvC σ) H.size)) (hA : ∀ q, s.heap.size ≤ q → A0 q) (hR : HC D dA A0 ad σ H) (hS : va_S A0 s.heap H locs)
    (kk : ∀ (ad' : Nat → Nat → Nat) (H1 : Heap) (locs1 : List Loc), KA X ad ad' σ q → LX ad' q x → HC D dA A0 ad' q H1 → va_S A0 s.heap H1 locs1 → W p l e R s m args below meth c H1 locs1 (cells + mc) (slots + ms) Q (F0 m (pc + 3) ls rest)) : W p l e R s m args below meth c H locs cells slots Q (F0 m pc ls st0) :=
  kcx_v hr hA hR hS (fun _ _ _ _ _ _ _ _ eo => nomatch eo) (fun σ' ad' H1 locs1 eo h1 h2 h3 h4 => by
    cases eo
    exact kk ad' H1 locs1 h1 h2 h3 h4)
theorem nleq {a m m1 M : Nat} (h : M = a + m) (e : m = m1) : a + m1 ≤ M := by omega
end XK

