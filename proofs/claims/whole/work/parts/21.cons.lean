/-! CONSTRUCTORS: worlds that grow, cell by cell (laid by wip/gen/cons.py) -/
abbrev cvL (L : List (Nat × Nat)) : Nat → Nat → Prop := fun f i => (f, i) ∈ L
def ctU (ct : Nat → Nat → va_E) (f0 i0 : Nat) (e : va_E) : Nat → Nat → va_E := fun f j => if f = f0 ∧ j = i0 then e else ct f j
def ct0 : Nat → Nat → va_E := fun _ _ => .inr (0, [])
def vE (D : va_G) (e e' : va_E) : Prop := ∀ (a : Nat) (H : Heap), va_at D vwCl (a, e) H → va_at D vwCl (a, e') H
theorem vE_rfl {D : va_G} {e e' : va_E} (h : e = e') : vE D e e' := fun _ _ q => h ▸ q
theorem arrV_congr {cI : ClassId} {N : Nat} {f g : Nat → Value} (h : ∀ j, j < N → f j = g j) : arrV cI N f = arrV cI N g := by
  have e : (fun j : Fin N => f j.val) = fun j : Fin N => g j.val := funext fun j => h _ j.isLt
  unfold arrV
  rw [e]
theorem vE_i {D : va_G} {c : ClassId} {n : Nat} {f g : Nat → Int32} (h : ∀ j, j < n → f j = g j) : vE D (.inl (c, n, .inl f)) (.inl (c, n, .inl g)) := fun a H q => by
  have e : vp_cell c (n, .inl f) = vp_cell c (n, .inl g) := by
    rw [vp_cell_i, vp_cell_i]
    exact arrV_congr (fun j hj => by rw [h j hj])
  show H[a]? = some (vp_cell c (n, .inl g))
  rw [← e]
  exact q
theorem vE_r {D : va_G} {c : ClassId} {n : Nat} {f g : Nat → Option Nat} (h : ∀ j, j < n → f j = g j) : vE D (.inl (c, n, rfs f)) (.inl (c, n, rfs g)) := fun a H q => by
  have e : vp_cell c (n, rfs f) = vp_cell c (n, rfs g) := by
    show arrV c n (fun j => va_rf (f j)) = arrV c n (fun j => va_rf (g j))
    exact arrV_congr (fun j hj => by rw [h j hj])
  show H[a]? = some (vp_cell c (n, rfs g))
  rw [← e]
  exact q
theorem WW_conv {D : va_G} {A : Nat → Prop} {ad : Nat → Nat → Nat} {cv cv' : Nat → Nat → Prop} {ct ct' : Nat → Nat → va_E} {H : Heap} (h : WW D vwCl A ad cv ct H) (hcv : ∀ f i, cv' f i → cv f i) (hct : ∀ f i, cv' f i → vE D (ct f i) (ct' f i)) : WW D vwCl A ad cv' ct' H := by
  have h := WW_congr h hcv (fun f i _ => rfl)
  obtain ⟨⟨L, fn, hP, hD, hc⟩, hi⟩ := WW_fit (B := fun q => A q ∧ ∃ f i, cv' f i ∧ ad f i = q) h (fun f i q => ⟨WW_A h q, f, i, q, rfl⟩)
  have hex : ∀ q, ∃ e, ∀ f i, cv' f i → ad f i = q → ct' f i = e := fun q => by
    by_cases hx : ∃ f i, cv' f i ∧ ad f i = q
    · obtain ⟨f, i, h1, h2⟩ := hx
      exact ⟨ct' f i, fun f' i' h3 h4 => by obtain ⟨rfl, rfl⟩ := hi f' i' f i h3 h1 (h4.trans h2.symm); rfl⟩
    · exact ⟨fn q, fun f i a b => absurd ⟨f, i, a, b⟩ hx⟩
  refine ⟨⟨L, fun q => (hex q).choose, pl_P fun a ha => ?_, pl_D (pl_nd hD) fun a ha => (pl_DA hD ha).1, fun f i q => ⟨(hc f i q).1, ((hex _).choose_spec f i q rfl).symm⟩⟩, hi⟩
  obtain ⟨f, i, h1, h2⟩ := (pl_DA hD ha).2
  have h3 := pl_Pat hP ha
  rw [← h2, (hc f i h1).2] at h3
  have h4 := hct f i h1 _ H h3
  rw [(hex a).choose_spec f i h1 h2, h2] at h4
  exact h4
theorem ctU_off {ct : Nat → Nat → va_E} {L : List (Nat × Nat)} {f0 i0 : Nat} {e : va_E} (hn : ¬ (f0, i0) ∈ L) (f j : Nat) (h : cvL L f j) : ctU ct f0 i0 e f j = ct f j := if_neg (fun q => hn (by rw [← q.1, ← q.2]; exact h))
theorem cvL_c {L : List (Nat × Nat)} {f0 i0 : Nat} (f j : Nat) (h : cvL ((f0, i0) :: L) f j) : (f = f0 ∧ j = i0) ∨ cvL L f j := by
  rcases List.mem_cons.mp h with h | h
  · exact Or.inl (Prod.mk.inj h)
  · exact Or.inr h
theorem dA1 {D : va_G} {dA : Nat → ClassId} {cl : List vw_C} {s : State} {cA : ClassId} (h : va_K D cl (TYs dA ++ [(cA, .long)]) s) : cA = dA 1 := by
  have e1 : s.vm.findClass ("[" ++ FieldType.long.toString) = some (dA 1) := (h.2 1 (dA 1, .long) rfl).2
  have e2 : s.vm.findClass ("[" ++ FieldType.long.toString) = some cA := (h.2 7 (cA, .long) rfl).2
  exact Option.some.inj (e2.symm.trans e1)
theorem dA2 {D : va_G} {dA : Nat → ClassId} {cl : List vw_C} {s : State} {cA : ClassId} (h : va_K D cl (TYs dA ++ [(cA, .boolean)]) s) : cA = dA 2 := by
  have e1 : s.vm.findClass ("[" ++ FieldType.boolean.toString) = some (dA 2) := (h.2 2 (dA 2, .boolean) rfl).2
  have e2 : s.vm.findClass ("[" ++ FieldType.boolean.toString) = some cA := (h.2 7 (cA, .boolean) rfl).2
  exact Option.some.inj (e2.symm.trans e1)
theorem dAr {D : va_G} {dA : Nat → ClassId} {cl : List vw_C} {s : State} {cA : ClassId} (k : Nat) {C : String} (hk : (TYs dA ++ [(cA, .object C)])[k]? = some (dA k, .object C)) (h : va_K D cl (TYs dA ++ [(cA, .object C)]) s) : cA = dA k := by
  obtain ⟨k1, c1, -, -, -, e1⟩ := (h.2 k (dA k, .object C) hk).2
  obtain ⟨k2, c2, -, -, -, e2⟩ := (h.2 7 (cA, .object C) rfl).2
  exact Option.some.inj (e2.symm.trans e1)
section CNR
variable {p : Program} {l : Launch} {e : Env} {R : Room} {s : State} {m : MethodId} {args : Array Value} {below : List Frame} {meth : Method} {c : Code} {H : Heap} {locs : List Loc} {cells slots : Nat} {Q : State → Prop}
variable {cc : ByteArray} {pc : Nat} {ls : Array Slot} {rest : List Value} {D : va_G} {dA : Nat → ClassId} {A : Nat → Prop} {ad : Nat → Nat → Nat} {L : List (Nat × Nat)} {ct : Nat → Nat → va_E} {H0 : Heap}
theorem cn_i (f0 i0 : Nat) (hexec : p.tables.exec = Jvm.exec) (hb : c.code = cc) (harr : (Cond.arrayClass .int).before args s = true) (hK : va_K D vwCl (TYs dA) s) (hR : WW D vwCl A ad (cvL L) ct H) (hS : va_S A H0 H locs) (hA : ∀ q, H0.size ≤ q → A q)
    {n : Int32} (N' : Nat) (hn : ¬ n < 0) (hN : n.toNatClampNeg = N') (hbytes : N' * 4 ≤ 536870912) (hcells : cells + 1 ≤ R.cells) (hslots : slots + N' ≤ R.slots) (hnv : ¬ (f0, i0) ∈ L) (hdg : decode cc pc = .ok (.newarray .int, 2))
    (kk : ∀ (q : Nat) (H1 : Heap), A q → WW D vwCl A (ad1 ad f0 i0 q) (cvL ((f0, i0) :: L)) (ctU ct f0 i0 (.inl (dA 0, N', .inl (fun _ => 0)))) H1 → va_S A H0 H1 locs →
      W p l e R s m args below meth c H1 locs (cells + 1) (slots + N') Q (F0 m (pc + 2) ls (.ref q :: rest))) : W p l e R s m args below meth c H locs cells slots Q (F0 m pc ls (.int n :: rest)) :=
  ww_newi (cv' := cvL ((f0, i0) :: L)) (ct' := fun _ => ctU ct f0 i0 (.inl (dA 0, N', .inl (fun _ => 0)))) hexec hb harr hK hR hS hA hn hN hbytes hcells hslots hnv cvL_c (fun _ => ctU_off hnv) (fun _ => if_pos ⟨rfl, rfl⟩) hdg (fun q H1 h1 _ h2 h3 => kk q H1 h1 h2 h3)
theorem cn_l (f0 i0 : Nat) (hexec : p.tables.exec = Jvm.exec) (hb : c.code = cc) (harr : (Cond.arrayClass .long).before args s = true) (hK : va_K D vwCl (TYs dA) s) (hR : WW D vwCl A ad (cvL L) ct H) (hS : va_S A H0 H locs) (hA : ∀ q, H0.size ≤ q → A q)
    {n : Int32} (N' : Nat) (hn : ¬ n < 0) (hN : n.toNatClampNeg = N') (hbytes : N' * 8 ≤ 536870912) (hcells : cells + 1 ≤ R.cells) (hslots : slots + N' ≤ R.slots) (hnv : ¬ (f0, i0) ∈ L) (hdg : decode cc pc = .ok (.newarray .long, 2))
    (kk : ∀ (q : Nat) (H1 : Heap), A q → WW D vwCl A (ad1 ad f0 i0 q) (cvL ((f0, i0) :: L)) (ctU ct f0 i0 (.inl (dA 1, N', .inr (.inl (fun _ => 0))))) H1 → va_S A H0 H1 locs →
      W p l e R s m args below meth c H1 locs (cells + 1) (slots + N') Q (F0 m (pc + 2) ls (.ref q :: rest))) : W p l e R s m args below meth c H locs cells slots Q (F0 m pc ls (.int n :: rest)) := by
  obtain ⟨⟨L1, fn, hP, hD, hc⟩, hi⟩ := hR
  refine va_newa (a0 := (N', .inr (.inl (fun _ => 0)))) (atype := .long) (ty := .long) hexec hb harr rfl hK hP hD hS hA (fun cA => rfl) hn hN hbytes hcells hslots hdg (fun q cA H1 hK1 hP1 hD1 hS1 => ?_)
  have hcA := dA1 hK1
  subst hcA
  exact kk q H1 (pl_lastA hD1) (WW_push hc hi hP1 hD1 hnv cvL_c (ctU_off hnv) (if_pos ⟨rfl, rfl⟩)) hS1
theorem cn_z (f0 i0 : Nat) (hexec : p.tables.exec = Jvm.exec) (hb : c.code = cc) (harr : (Cond.arrayClass .boolean).before args s = true) (hK : va_K D vwCl (TYs dA) s) (hR : WW D vwCl A ad (cvL L) ct H) (hS : va_S A H0 H locs) (hA : ∀ q, H0.size ≤ q → A q)
    {n : Int32} (N' : Nat) (hn : ¬ n < 0) (hN : n.toNatClampNeg = N') (hbytes : N' * 1 ≤ 536870912) (hcells : cells + 1 ≤ R.cells) (hslots : slots + N' ≤ R.slots) (hnv : ¬ (f0, i0) ∈ L) (hdg : decode cc pc = .ok (.newarray .boolean, 2))
    (kk : ∀ (q : Nat) (H1 : Heap), A q → WW D vwCl A (ad1 ad f0 i0 q) (cvL ((f0, i0) :: L)) (ctU ct f0 i0 (.inl (dA 2, N', .inl (fun _ => 0)))) H1 → va_S A H0 H1 locs →
      W p l e R s m args below meth c H1 locs (cells + 1) (slots + N') Q (F0 m (pc + 2) ls (.ref q :: rest))) : W p l e R s m args below meth c H locs cells slots Q (F0 m pc ls (.int n :: rest)) := by
  obtain ⟨⟨L1, fn, hP, hD, hc⟩, hi⟩ := hR
  refine va_newa (a0 := (N', .inl (fun _ => 0))) (atype := .boolean) (ty := .boolean) hexec hb harr rfl hK hP hD hS hA (fun cA => rfl) hn hN hbytes hcells hslots hdg (fun q cA H1 hK1 hP1 hD1 hS1 => ?_)
  have hcA := dA2 hK1
  subst hcA
  exact kk q H1 (pl_lastA hD1) (WW_push hc hi hP1 hD1 hnv cvL_c (ctU_off hnv) (if_pos ⟨rfl, rfl⟩)) hS1
theorem cn_r (f0 i0 k : Nat) (hexec : p.tables.exec = Jvm.exec) (hb : c.code = cc) {own C : String} {index : Nat} (hown : s.vm.findClass own = some m.cls) (hclink : (Cond.classLink own index C).before args s = true) (hover : va_AO C s) (hk : ∀ cA : ClassId, (TYs dA ++ [(cA, .object C)])[k]? = some (dA k, .object C)) (hK : va_K D vwCl (TYs dA) s) (hR : WW D vwCl A ad (cvL L) ct H) (hS : va_S A H0 H locs) (hA : ∀ q, H0.size ≤ q → A q)
    {n : Int32} (N' : Nat) (hn : ¬ n < 0) (hN : n.toNatClampNeg = N') (hbytes : N' * 4 ≤ 536870912) (hcells : cells + 1 ≤ R.cells) (hslots : slots + N' ≤ R.slots) (hnv : ¬ (f0, i0) ∈ L) (hdg : decode cc pc = .ok (.anewarray index, 3))
    (kk : ∀ (q : Nat) (H1 : Heap), A q → WW D vwCl A (ad1 ad f0 i0 q) (cvL ((f0, i0) :: L)) (ctU ct f0 i0 (.inl (dA k, N', rfs (fun _ => none)))) H1 → va_S A H0 H1 locs →
      W p l e R s m args below meth c H1 locs (cells + 1) (slots + N') Q (F0 m (pc + 3) ls (.ref q :: rest))) : W p l e R s m args below meth c H locs cells slots Q (F0 m pc ls (.int n :: rest)) := by
  obtain ⟨⟨L1, fn, hP, hD, hc⟩, hi⟩ := hR
  refine va_newq hexec hb hown hclink hover hK hP hD hS hA hn hN hbytes hcells hslots hdg (fun q cA H1 hK1 hP1 hD1 hS1 => ?_)
  have hcA := dAr k (hk cA) hK1
  subst hcA
  exact kk q H1 (pl_lastA hD1) (WW_push hc hi hP1 hD1 hnv cvL_c (ctU_off hnv) (if_pos ⟨rfl, rfl⟩)) hS1
theorem cn_o (f0 i0 : Nat) (hexec : p.tables.exec = Jvm.exec) (hb : c.code = cc) {own C : String} {T : u_T} {N ci index : Nat} {Ts : List Cond} (hts : ∀ w ∈ Ts, w.before args s = true) (hin : ∀ w ∈ u_ws C T N, w ∈ Ts) (ty : Nat → FieldType) (hty : ∀ k, k < N → parseFieldDescriptor (T k).2.2.1 = some (ty k)) (hown : s.vm.findClass own = some m.cls) (hcl : (Cond.classLink own index C).before args s = true) (hinst : (Cond.instantiable C N).before args s = true) (hini : (Cond.initialized C).before args s = true)
    (hK : va_K D vwCl (TYs dA) s) (hR : WW D vwCl A ad (cvL L) ct H) (hS : va_S A H0 H locs) (hA : ∀ q, H0.size ≤ q → A q) (hci : vwCl[ci]? = some (C, T, N)) {fs : List Value} (hfs : ∀ j, j < N → defaultValue (ty j) = vp_V fs j) (hcells : cells + 1 ≤ R.cells) (hslots : slots + N ≤ R.slots) (hnv : ¬ (f0, i0) ∈ L) (hdg : decode cc pc = .ok (.new index, 3))
    (kk : ∀ (q : Nat) (H1 : Heap), A q → WW D vwCl A (ad1 ad f0 i0 q) (cvL ((f0, i0) :: L)) (ctU ct f0 i0 (.inr (ci, fs))) H1 → va_S A H0 H1 locs →
      W p l e R s m args below meth c H1 locs (cells + 1) (slots + N) Q (F0 m (pc + 3) ls (.ref q :: rest))) : W p l e R s m args below meth c H locs cells slots Q (F0 m pc ls rest) :=
  ww_new (cv' := cvL ((f0, i0) :: L)) (ct' := fun _ => ctU ct f0 i0 (.inr (ci, fs))) hexec hb hts hin ty hty hown hcl hinst hini hK hR hS hA hci hfs hcells hslots hnv cvL_c (fun _ => ctU_off hnv) (fun _ => if_pos ⟨rfl, rfl⟩) hdg (fun q H1 h1 _ h2 h3 => kk q H1 h1 h2 h3)
end CNR
