/-! CONSTRUCTORS: worlds that grow, cell by cell (laid by wip/gen/cons.py) -/
abbrev cvL (L : List (Nat × Nat)) : Nat → Nat → Prop := fun f i => (f, i) ∈ L
def ctU (ct : Nat → Nat → va_E) (f0 i0 : Nat) (e : va_E) : Nat → Nat → va_E := fun f j => if f = f0 ∧ j = i0 then e else ct f j
def ct0 : Nat → Nat → va_E := fun _ _ => .inr (0, [])
def vE (D : va_G) (e e' : va_E) : Prop := ∀ (a : Nat) (H : Heap), va_at D vwCl (a, e) H → va_at D vwCl (a, e') H
theorem vE_rfl {D : va_G} {e e' : va_E} (h : e = e') : vE D e e' := fun _ _ q => h ▸ q
theorem arrV_congr {cI : ClassId} {N : Nat} {f g : Nat → Value} (h : ∀ j, j < N → f j = g j) : arrV cI N f = arrV cI N g := by
  have e : (fun j : Fin N => f j.val) = fun j : Fin N => g j.val := funext fun j => h _ j.isLt
  unfold arrV
  rw [e]
theorem vE_i {D : va_G} {c : ClassId} {n : Nat} {f g : Nat → Int32} (h : ∀ j, j < n → f j = g j) : vE D (.inl (c, n, .inl f)) (.inl (c, n, .inl g)) := fun a H q => by
  have e : vp_cell c (n, .inl f) = vp_cell c (n, .inl g) := by
    rw [vp_cell_i, vp_cell_i]
    exact arrV_congr (fun j hj => by rw [h j hj])
  show H[a]? = some (vp_cell c (n, .inl g))
  rw [← e]
  exact q
theorem vE_r {D : va_G} {c : ClassId} {n : Nat} {f g : Nat → Option Nat} (h : ∀ j, j < n → f j = g j) : vE D (.inl (c, n, rfs f)) (.inl (c, n, rfs g)) := fun a H q => by
  have e : vp_cell c (n, rfs f) = vp_cell c (n, rfs g) := by
    show arrV c n (fun j => va_rf (f j)) = arrV c n (fun j => va_rf (g j))
    exact arrV_congr (fun j hj => by rw [h j hj])
  show H[a]? = some (vp_cell c (n, rfs g))
  rw [← e]
  exact q
theorem WW_conv {D : va_G} {A : Nat → Prop} {ad : Nat → Nat → Nat} {cv cv' : Nat → Nat → Prop} {ct ct' : Nat → Nat → va_E} {H : Heap} (h : WW D vwCl A ad cv ct H) (hcv : ∀ f i, cv' f i → cv f i) (hct : ∀ f i, cv' f i → vE D (ct f i) (ct' f i)) : WW D vwCl A ad cv' ct' H := by
  have h := WW_congr h hcv (fun f i _ => rfl)
  obtain ⟨⟨L, fn, hP, hD, hc⟩, hi⟩ := WW_fit (B := fun q => A q ∧ ∃ f i, cv' f i ∧ ad f i = q) h (fun f i q => ⟨WW_A h q, f, i, q, rfl⟩)
  have hex : ∀ q, ∃ e, ∀ f i, cv' f i → ad f i = q → ct' f i = e := fun q => by
    by_cases hx : ∃ f i, cv' f i ∧ ad f i = q
    · obtain ⟨f, i, h1, h2⟩ := hx
      exact ⟨ct' f i, fun f' i' h3 h4 => by obtain ⟨rfl, rfl⟩ := hi f' i' f i h3 h1 (h4.trans h2.symm); rfl⟩
    · exact ⟨fn q, fun f i a b => absurd ⟨f, i, a, b⟩ hx⟩
  refine ⟨⟨L, fun q => (hex q).choose, pl_P fun a ha => ?_, pl_D (pl_nd hD) fun a ha => (pl_DA hD ha).1, fun f i q => ⟨(hc f i q).1, ((hex _).choose_spec f i q rfl).symm⟩⟩, hi⟩
  obtain ⟨f, i, h1, h2⟩ := (pl_DA hD ha).2
  have h3 := pl_Pat hP ha
  rw [← h2, (hc f i h1).2] at h3
  have h4 := hct f i h1 _ H h3
  rw [(hex a).choose_spec f i h1 h2, h2] at h4
  exact h4
theorem ctU_off {ct : Nat → Nat → va_E} {L : List (Nat × Nat)} {f0 i0 : Nat} {e : va_E} (hn : ¬ (f0, i0) ∈ L) (f j : Nat) (h : cvL L f j) : ctU ct f0 i0 e f j = ct f j := if_neg (fun q => hn (by rw [← q.1, ← q.2]; exact h))
theorem cvL_c {L : List (Nat × Nat)} {f0 i0 : Nat} (f j : Nat) (h : cvL ((f0, i0) :: L) f j) : (f = f0 ∧ j = i0) ∨ cvL L f j := by
  rcases List.mem_cons.mp h with h | h
  · exact Or.inl (Prod.mk.inj h)
  · exact Or.inr h
theorem dA1 {D : va_G} {dA : Nat → ClassId} {cl : List vw_C} {s : State} {cA : ClassId} (h : va_K D cl (TYs dA ++ [(cA, .long)]) s) : cA = dA 1 := by
  have e1 : s.vm.findClass ("[" ++ FieldType.long.toString) = some (dA 1) := (h.2 1 (dA 1, .long) rfl).2
  have e2 : s.vm.findClass ("[" ++ FieldType.long.toString) = some cA := (h.2 7 (cA, .long) rfl).2
  exact Option.some.inj (e2.symm.trans e1)
theorem dAr {D : va_G} {dA : Nat → ClassId} {cl : List vw_C} {s : State} {cA : ClassId} (k : Nat) {C : String} (hk : (TYs dA ++ [(cA, .object C)])[k]? = some (dA k, .object C)) (h : va_K D cl (TYs dA ++ [(cA, .object C)]) s) : cA = dA k := by
  obtain ⟨k1, c1, -, -, -, e1⟩ := (h.2 k (dA k, .object C) hk).2
  obtain ⟨k2, c2, -, -, -, e2⟩ := (h.2 7 (cA, .object C) rfl).2
  exact Option.some.inj (e2.symm.trans e1)
section CNR
variable {p : Program} {l : Launch} {e : Env} {R : Room} {s : State} {m : MethodId} {args : Array Value} {below : List Frame} {meth : Method} {c : Code} {H : Heap} {locs : List Loc} {cells slots : Nat} {Q : State → Prop}
variable {cc : ByteArray} {pc : Nat} {ls : Array Slot} {rest : List Value} {D : va_G} {dA : Nat → ClassId} {A : Nat → Prop} {ad : Nat → Nat → Nat} {L : List (Nat × Nat)} {ct : Nat → Nat → va_E} {H0 : Heap}
theorem cn_i (f0 i0 : Nat) (hexec : p.tables.exec = Jvm.exec) (hb : c.code = cc) (harr : (Cond.arrayClass .int).before args s = true) (hK : va_K D vwCl (TYs dA) s) (hR : WW D vwCl A ad (cvL L) ct H) (hS : va_S A H0 H locs) (hA : ∀ q, H0.size ≤ q → A q)
    {n : Int32} (N' : Nat) (hn : ¬ n < 0) (hN : n.toNatClampNeg = N') (hbytes : N' * 4 ≤ 536870912) (hcells : cells + 1 ≤ R.cells) (hslots : slots + N' ≤ R.slots) (hnv : ¬ (f0, i0) ∈ L) (hdg : decode cc pc = .ok (.newarray .int, 2))
    (kk : ∀ (q : Nat) (H1 : Heap), A q → WW D vwCl A (ad1 ad f0 i0 q) (cvL ((f0, i0) :: L)) (ctU ct f0 i0 (.inl (dA 0, N', .inl (fun _ => 0)))) H1 → va_S A H0 H1 locs →
      W p l e R s m args below meth c H1 locs (cells + 1) (slots + N') Q (F0 m (pc + 2) ls (.ref q :: rest))) : W p l e R s m args below meth c H locs cells slots Q (F0 m pc ls (.int n :: rest)) :=
  ww_newi (cv' := cvL ((f0, i0) :: L)) (ct' := fun _ => ctU ct f0 i0 (.inl (dA 0, N', .inl (fun _ => 0)))) hexec hb harr hK hR hS hA hn hN hbytes hcells hslots hnv cvL_c (fun _ => ctU_off hnv) (fun _ => if_pos ⟨rfl, rfl⟩) hdg (fun q H1 h1 _ h2 h3 => kk q H1 h1 h2 h3)
theorem cn_l (f0 i0 : Nat) (hexec : p.tables.exec = Jvm.exec) (hb : c.code = cc) (harr : (Cond.arrayClass .long).before args s = true) (hK : va_K D vwCl (TYs dA) s) (hR : WW D vwCl A ad (cvL L) ct H) (hS : va_S A H0 H locs) (hA : ∀ q, H0.size ≤ q → A q)
    {n : Int32} (N' : Nat) (hn : ¬ n < 0) (hN : n.toNatClampNeg = N') (hbytes : N' * 8 ≤ 536870912) (hcells : cells + 1 ≤ R.cells) (hslots : slots + N' ≤ R.slots) (hnv : ¬ (f0, i0) ∈ L) (hdg : decode cc pc = .ok (.newarray .long, 2))
    (kk : ∀ (q : Nat) (H1 : Heap), A q → WW D vwCl A (ad1 ad f0 i0 q) (cvL ((f0, i0) :: L)) (ctU ct f0 i0 (.inl (dA 1, N', .inr (.inl (fun _ => 0))))) H1 → va_S A H0 H1 locs →
      W p l e R s m args below meth c H1 locs (cells + 1) (slots + N') Q (F0 m (pc + 2) ls (.ref q :: rest))) : W p l e R s m args below meth c H locs cells slots Q (F0 m pc ls (.int n :: rest)) := by
  obtain ⟨⟨L1, fn, hP, hD, hc⟩, hi⟩ := hR
  refine va_newa (a0 := (N', .inr (.inl (fun _ => 0)))) (atype := .long) (ty := .long) hexec hb harr rfl hK hP hD hS hA (fun cA => rfl) hn hN hbytes hcells hslots hdg (fun q cA H1 hK1 hP1 hD1 hS1 => ?_)
  have hcA := dA1 hK1
  subst hcA
  exact kk q H1 (pl_lastA hD1) (WW_push hc hi hP1 hD1 hnv cvL_c (ctU_off hnv) (if_pos ⟨rfl, rfl⟩)) hS1
theorem cn_r (f0 i0 k : Nat) (hexec : p.tables.exec = Jvm.exec) (hb : c.code = cc) {own C : String} {index : Nat} (hown : s.vm.findClass own = some m.cls) (hclink : (Cond.classLink own index C).before args s = true) (hover : va_AO C s) (hk : ∀ cA : ClassId, (TYs dA ++ [(cA, .object C)])[k]? = some (dA k, .object C)) (hK : va_K D vwCl (TYs dA) s) (hR : WW D vwCl A ad (cvL L) ct H) (hS : va_S A H0 H locs) (hA : ∀ q, H0.size ≤ q → A q)
    {n : Int32} (N' : Nat) (hn : ¬ n < 0) (hN : n.toNatClampNeg = N') (hbytes : N' * 4 ≤ 536870912) (hcells : cells + 1 ≤ R.cells) (hslots : slots + N' ≤ R.slots) (hnv : ¬ (f0, i0) ∈ L) (hdg : decode cc pc = .ok (.anewarray index, 3))
    (kk : ∀ (q : Nat) (H1 : Heap), A q → WW D vwCl A (ad1 ad f0 i0 q) (cvL ((f0, i0) :: L)) (ctU ct f0 i0 (.inl (dA k, N', rfs (fun _ => none)))) H1 → va_S A H0 H1 locs →
      W p l e R s m args below meth c H1 locs (cells + 1) (slots + N') Q (F0 m (pc + 3) ls (.ref q :: rest))) : W p l e R s m args below meth c H locs cells slots Q (F0 m pc ls (.int n :: rest)) := by
  obtain ⟨⟨L1, fn, hP, hD, hc⟩, hi⟩ := hR
  refine va_newq hexec hb hown hclink hover hK hP hD hS hA hn hN hbytes hcells hslots hdg (fun q cA H1 hK1 hP1 hD1 hS1 => ?_)
  have hcA := dAr k (hk cA) hK1
  subst hcA
  exact kk q H1 (pl_lastA hD1) (WW_push hc hi hP1 hD1 hnv cvL_c (ctU_off hnv) (if_pos ⟨rfl, rfl⟩)) hS1
theorem cn_o (f0 i0 : Nat) (hexec : p.tables.exec = Jvm.exec) (hb : c.code = cc) {own C : String} {T : u_T} {N ci index : Nat} {Ts : List Cond} (hts : ∀ w ∈ Ts, w.before args s = true) (hin : ∀ w ∈ u_ws C T N, w ∈ Ts) (ty : Nat → FieldType) (hty : ∀ k, k < N → parseFieldDescriptor (T k).2.2.1 = some (ty k)) (hown : s.vm.findClass own = some m.cls) (hcl : (Cond.classLink own index C).before args s = true) (hinst : (Cond.instantiable C N).before args s = true) (hini : (Cond.initialized C).before args s = true)
    (hK : va_K D vwCl (TYs dA) s) (hR : WW D vwCl A ad (cvL L) ct H) (hS : va_S A H0 H locs) (hA : ∀ q, H0.size ≤ q → A q) (hci : vwCl[ci]? = some (C, T, N)) {fs : List Value} (hfs : ∀ j, j < N → defaultValue (ty j) = vp_V fs j) (hcells : cells + 1 ≤ R.cells) (hslots : slots + N ≤ R.slots) (hnv : ¬ (f0, i0) ∈ L) (hdg : decode cc pc = .ok (.new index, 3))
    (kk : ∀ (q : Nat) (H1 : Heap), A q → WW D vwCl A (ad1 ad f0 i0 q) (cvL ((f0, i0) :: L)) (ctU ct f0 i0 (.inr (ci, fs))) H1 → va_S A H0 H1 locs →
      W p l e R s m args below meth c H1 locs (cells + 1) (slots + N) Q (F0 m (pc + 3) ls (.ref q :: rest))) : W p l e R s m args below meth c H locs cells slots Q (F0 m pc ls rest) :=
  ww_new (cv' := cvL ((f0, i0) :: L)) (ct' := fun _ => ctU ct f0 i0 (.inr (ci, fs))) hexec hb hts hin ty hty hown hcl hinst hini hK hR hS hA hci hfs hcells hslots hnv cvL_c (fun _ => ctU_off hnv) (fun _ => if_pos ⟨rfl, rfl⟩) hdg (fun q H1 h1 _ h2 h3 => kk q H1 h1 h2 h3)
end CNR
section CNE
variable {p : Program} {l : Launch} {e : Env} {R : Room} {s : State} {m : MethodId} {args : Array Value} {below : List Frame} {meth : Method} {c : Code} {H : Heap} {locs : List Loc} {cells slots : Nat} {Q : State → Prop}
variable {cc : ByteArray} {pc nL : Nat} {own : String} {ls : Array Slot} {D : va_G} {dA : Nat → ClassId} {A0 : Nat → Prop} {cv cv' : Nat → Nat → Prop} {ct : Nat → Nat → va_E} {ctF : (Nat → Nat → Nat) → Nat → Nat → va_E} {post : (Nat → Nat → Nat) → Prop}
theorem retn_v {u : Nat → Nat → Nat} (hC : CTX p s m args meth c cc nL own none) (hp : post u) (hR : WW D vwCl A0 u cv ct H) (hcv : ∀ f i, cv' f i → cv f i) (hct : ∀ f i, cv' f i → vE D (ct f i) (ctF u f i)) (hS : va_S A0 s.heap H locs) (hdg : decode cc pc = .ok (.return_, 1)) :
    W p l e R s m args below meth c H locs cells slots (MQ below (va_Qv post (fun u t => WW D vwCl A0 u cv' (ctF u) t.heap) A0) args s cells slots A0) (F0 m pc ls []) :=
  W.vret hC.1 hC.2.1 hC.2.2.2.2.2.1 (fun t ht hW => ⟨⟨u, rfl, hp, by show WW D vwCl A0 u cv' (ctF u) t.heap; rw [ht]; exact WW_conv hR hcv hct⟩, hS.F ht⟩) hS.2.2 hdg hC.2.2.2.2.2.2
end CNE

abbrev ctNA (dA : Nat → ClassId) (u : Nat → Nat → Nat) : Nat → Nat → va_E := ctU (ctU (ctU (ctU (ct0) 0 0 (.inr (1, [.long 0, .long 0, .long 0, .int 0, .int (-1), .ref (u 1 0), .ref (u 2 0), .ref (u 3 0)]))) 1 0 (.inl (dA 0, 2, .inl (fun _ => 0)))) 2 0 (.inl (dA 0, 3, .inl (fun _ => 0)))) 3 0 (.inl (dA 1, 3, .inr (.inl (fun _ => 0))))
abbrev f0NA : List Value := [.long 0, .long 0, .long 0, .int 0, .int 0, .null, .null, .null]
set_option maxHeartbeats 4000000 in
set_option maxRecDepth 100000 in
theorem mX0_init (l : Launch) (D : va_G) (dA : Nat → ClassId) (a sz : Nat) : Met l yX0_init (WSy yX0_init cX0_init 1 none) ({ frames := 1, cells := 3, slots := 8, locals := 20 } : Room) (va_Pc [.ref a] (fun U => U.heap.size = sz ∧ a < sz ∧ WW D vwCl (fun _ => True) (fun _ _ => a) (cvL [(0, 0)]) (fun _ _ => .inr (1, f0NA)) U.heap ∧ KS D dA U)) (va_Qv (fun (u : Nat → Nat → Nat) => u 0 0 = a) (fun u t => WW D vwCl (fun q => q = a ∨ sz ≤ q) u (cvL [(3, 0), (2, 0), (1, 0), (0, 0)]) (ctNA dA u) t.heap) (fun q => q = a ∨ sz ≤ q)) 3 8 (fun q => q = a ∨ sz ≤ q) := by
  refine met_ofI (by decide) (Nat.le_of_ble_eq_true rfl) ?_
  intro p e s m below meth c ls hC hin hB hl
  obtain ⟨rfl, ha0, hR, hK⟩ := hB
  have hA : ∀ q : Nat, s.heap.size ≤ q → (fun q => q = a ∨ s.heap.size ≤ q) q := fun q h => Or.inr h
  have hR := WW_fit (B := fun q => q = a ∨ s.heap.size ≤ q) hR (fun f i h => Or.inl rfl)
  have hS : va_S (fun q => q = a ∨ s.heap.size ≤ q) s.heap s.heap [] := va_S.rf
  have hF : ∀ q : Nat, (fun q => q = a ∨ s.heap.size ≤ q) q → q = a ∨ s.heap.size ≤ q := fun _ h => h
  generalize (fun q => q = a ∨ s.heap.size ≤ q) = A0 at hA hR hS hF ⊢
  have hC : CTX p s m _ meth c cX0_init 1 RX0 none := hC
  obtain ⟨hx, hb, hml, hown, hts, hr, hlk⟩ := id hC
  have hl : lv_has ls 1 [(0, .ref a)] := hl
  have hR : WW D vwCl A0 _ (cvL [(0, 0)]) (fun _ _ => .inr (1, f0NA)) s.heap := hR
  refine lv_aload_n hx hb dX0_init_0 rfl (lv_at hl 0 rfl) ?_
  refine W.objInit hx hb hown (hts _ q_101) (hts _ q_63) (hts _ q_64) rfl (by rw [hml]; exact hl.1) rfl dX0_init_1 (Nat.le_of_ble_eq_true rfl) (Nat.le_of_ble_eq_true rfl) ?_
  refine W.eq (g2 := F0 m 4 ls []) rfl ?_
  refine lv_aload_n hx hb dX0_init_4 rfl (lv_at hl 0 rfl) ?_
  refine lv_iconst (v := (-1)) hx hb dX0_init_5 (by decide) ?_
  refine ww_put (D := D) (ci := 1) (C := RX0) (T := TX0) (N := 8) (ty := .int) hx hb hts iuX0 tyX0 tyX0_ok nmX0 hown hK.1 hR hS (f := 0) (i := 0) (by decide) (fs := [.long 0, .long 0, .long 0, .int 0, .int 0, .null, .null, .null]) rfl rfl 4 (by decide) (hts _ q_106) (fun _ h9 => h9) rfl (by decide +kernel) rfl rfl (Nat.le_of_ble_eq_true rfl) dX0_init_6 (fun H locs hR hS => ?_)
  have hR : WW D vwCl A0 _ (cvL [(0, 0)]) (ctU _ 0 0 (.inr (1, [.long 0, .long 0, .long 0, .int 0, .int (-1), .null, .null, .null]))) H := hR
  refine lv_aload_n hx hb dX0_init_9 rfl (lv_at hl 0 rfl) ?_
  refine lv_iconst (v := 2) hx hb dX0_init_10 (by decide) ?_
  refine cn_i 1 0 hx hb (hts _ q_132) hK.1 hR hS hA 2 (by decide) rfl (Nat.le_of_ble_eq_true rfl) (Nat.le_of_ble_eq_true rfl) (Nat.le_of_ble_eq_true rfl) (by decide) dX0_init_11 (fun q1 H hAq hR hS => ?_)
  refine ww_putF (D := D) (ci := 1) (C := RX0) (T := TX0) (N := 8) (ty := .array .int) hx hb hts iuX0 tyX0 tyX0_ok nmX0 hown hK.1 hR hS (f := 0) (i := 0) (by decide) (fs := [.long 0, .long 0, .long 0, .int 0, .int (-1), .null, .null, .null]) rfl rfl 5 (by decide) (hts _ q_108) (fun _ h9 => h9) rfl hin rfl (by decide +kernel) rfl rfl (Nat.le_of_ble_eq_true rfl) dX0_init_13 (fun H locs hR hS => ?_)
  have hR : WW D vwCl A0 _ (cvL [(1, 0), (0, 0)]) (ctU _ 0 0 (.inr (1, [.long 0, .long 0, .long 0, .int 0, .int (-1), .ref q1, .null, .null]))) H := hR
  refine lv_aload_n hx hb dX0_init_16 rfl (lv_at hl 0 rfl) ?_
  refine lv_iconst (v := 3) hx hb dX0_init_17 (by decide) ?_
  refine cn_i 2 0 hx hb (hts _ q_132) hK.1 hR hS hA 3 (by decide) rfl (Nat.le_of_ble_eq_true rfl) (Nat.le_of_ble_eq_true rfl) (Nat.le_of_ble_eq_true rfl) (by decide) dX0_init_18 (fun q2 H hAq hR hS => ?_)
  refine ww_putF (D := D) (ci := 1) (C := RX0) (T := TX0) (N := 8) (ty := .array .int) hx hb hts iuX0 tyX0 tyX0_ok nmX0 hown hK.1 hR hS (f := 0) (i := 0) (by decide) (fs := [.long 0, .long 0, .long 0, .int 0, .int (-1), .ref q1, .null, .null]) rfl rfl 6 (by decide) (hts _ q_110) (fun _ h9 => h9) rfl hin rfl (by decide +kernel) rfl rfl (Nat.le_of_ble_eq_true rfl) dX0_init_20 (fun H locs hR hS => ?_)
  have hR : WW D vwCl A0 _ (cvL [(2, 0), (1, 0), (0, 0)]) (ctU _ 0 0 (.inr (1, [.long 0, .long 0, .long 0, .int 0, .int (-1), .ref q1, .ref q2, .null]))) H := hR
  refine lv_aload_n hx hb dX0_init_23 rfl (lv_at hl 0 rfl) ?_
  refine lv_iconst (v := 3) hx hb dX0_init_24 (by decide) ?_
  refine cn_l 3 0 hx hb (hts _ q_131) hK.1 hR hS hA 3 (by decide) rfl (Nat.le_of_ble_eq_true rfl) (Nat.le_of_ble_eq_true rfl) (Nat.le_of_ble_eq_true rfl) (by decide) dX0_init_25 (fun q3 H hAq hR hS => ?_)
  refine ww_putF (D := D) (ci := 1) (C := RX0) (T := TX0) (N := 8) (ty := .array .long) hx hb hts iuX0 tyX0 tyX0_ok nmX0 hown hK.1 hR hS (f := 0) (i := 0) (by decide) (fs := [.long 0, .long 0, .long 0, .int 0, .int (-1), .ref q1, .ref q2, .null]) rfl rfl 7 (by decide) (hts _ q_112) (fun _ h9 => h9) rfl hin rfl (by decide +kernel) rfl rfl (Nat.le_of_ble_eq_true rfl) dX0_init_27 (fun H locs hR hS => ?_)
  have hR : WW D vwCl A0 _ (cvL [(3, 0), (2, 0), (1, 0), (0, 0)]) (ctU _ 0 0 (.inr (1, [.long 0, .long 0, .long 0, .int 0, .int (-1), .ref q1, .ref q2, .ref q3]))) H := hR
  refine retn_v (u := _) hC ?_ hR ?_ ?_ hS dX0_init_30
  · rfl
  · intro f i h; exact h
  · intro f i h
    simp only [cvL, List.mem_cons, Prod.mk.injEq, List.not_mem_nil, or_false] at h
    rcases h with ⟨rfl, rfl⟩ | ⟨rfl, rfl⟩ | ⟨rfl, rfl⟩ | ⟨rfl, rfl⟩
    · exact vE_rfl rfl
    · exact vE_rfl rfl
    · exact vE_rfl rfl
    · exact vE_rfl rfl
abbrev ctNP (dA : Nat → ClassId) (u : Nat → Nat → Nat) : Nat → Nat → va_E := ctU (ctU (ct0) 0 0 (.inr (4, [.int 100, .int 0, .ref (u 1 0)]))) 1 0 (.inl (dA 0, 4, .inl (fun _ => 0)))
abbrev f0NP : List Value := [.int 0, .int 0, .null]
set_option maxHeartbeats 4000000 in
set_option maxRecDepth 100000 in
theorem mX3_init (l : Launch) (D : va_G) (dA : Nat → ClassId) (a sz : Nat) : Met l yX3_init (WSy yX3_init cX3_init 1 none) ({ frames := 1, cells := 1, slots := 4, locals := 20 } : Room) (va_Pc [.ref a] (fun U => U.heap.size = sz ∧ a < sz ∧ WW D vwCl (fun _ => True) (fun _ _ => a) (cvL [(0, 0)]) (fun _ _ => .inr (4, f0NP)) U.heap ∧ KS D dA U)) (va_Qv (fun (u : Nat → Nat → Nat) => u 0 0 = a) (fun u t => WW D vwCl (fun q => q = a ∨ sz ≤ q) u (cvL [(1, 0), (0, 0)]) (ctNP dA u) t.heap) (fun q => q = a ∨ sz ≤ q)) 1 4 (fun q => q = a ∨ sz ≤ q) := by
  refine met_ofI (by decide) (Nat.le_of_ble_eq_true rfl) ?_
  intro p e s m below meth c ls hC hin hB hl
  obtain ⟨rfl, ha0, hR, hK⟩ := hB
  have hA : ∀ q : Nat, s.heap.size ≤ q → (fun q => q = a ∨ s.heap.size ≤ q) q := fun q h => Or.inr h
  have hR := WW_fit (B := fun q => q = a ∨ s.heap.size ≤ q) hR (fun f i h => Or.inl rfl)
  have hS : va_S (fun q => q = a ∨ s.heap.size ≤ q) s.heap s.heap [] := va_S.rf
  have hF : ∀ q : Nat, (fun q => q = a ∨ s.heap.size ≤ q) q → q = a ∨ s.heap.size ≤ q := fun _ h => h
  generalize (fun q => q = a ∨ s.heap.size ≤ q) = A0 at hA hR hS hF ⊢
  have hC : CTX p s m _ meth c cX3_init 1 RX3 none := hC
  obtain ⟨hx, hb, hml, hown, hts, hr, hlk⟩ := id hC
  have hl : lv_has ls 1 [(0, .ref a)] := hl
  have hR : WW D vwCl A0 _ (cvL [(0, 0)]) (fun _ _ => .inr (4, f0NP)) s.heap := hR
  refine lv_aload_n hx hb dX3_init_0 rfl (lv_at hl 0 rfl) ?_
  refine W.objInit hx hb hown (hts _ q_137) (hts _ q_63) (hts _ q_64) rfl (by rw [hml]; exact hl.1) rfl dX3_init_1 (Nat.le_of_ble_eq_true rfl) (Nat.le_of_ble_eq_true rfl) ?_
  refine W.eq (g2 := F0 m 4 ls []) rfl ?_
  refine lv_aload_n hx hb dX3_init_4 rfl (lv_at hl 0 rfl) ?_
  refine lv_bipush (v := 100) hx hb dX3_init_5 (by decide) ?_
  refine ww_put (D := D) (ci := 4) (C := RX3) (T := TX3) (N := 3) (ty := .int) hx hb hts iuX3 tyX3 tyX3_ok nmX3 hown hK.1 hR hS (f := 0) (i := 0) (by decide) (fs := [.int 0, .int 0, .null]) rfl rfl 0 (by decide) (hts _ q_138) (fun _ h9 => h9) rfl (by decide +kernel) rfl rfl (Nat.le_of_ble_eq_true rfl) dX3_init_7 (fun H locs hR hS => ?_)
  have hR : WW D vwCl A0 _ (cvL [(0, 0)]) (ctU _ 0 0 (.inr (4, [.int 100, .int 0, .null]))) H := hR
  refine lv_aload_n hx hb dX3_init_10 rfl (lv_at hl 0 rfl) ?_
  refine lv_iconst (v := 4) hx hb dX3_init_11 (by decide) ?_
  refine cn_i 1 0 hx hb (hts _ q_132) hK.1 hR hS hA 4 (by decide) rfl (Nat.le_of_ble_eq_true rfl) (Nat.le_of_ble_eq_true rfl) (Nat.le_of_ble_eq_true rfl) (by decide) dX3_init_12 (fun q1 H hAq hR hS => ?_)
  refine ww_putF (D := D) (ci := 4) (C := RX3) (T := TX3) (N := 3) (ty := .array .int) hx hb hts iuX3 tyX3 tyX3_ok nmX3 hown hK.1 hR hS (f := 0) (i := 0) (by decide) (fs := [.int 100, .int 0, .null]) rfl rfl 2 (by decide) (hts _ q_141) (fun _ h9 => h9) rfl hin rfl (by decide +kernel) rfl rfl (Nat.le_of_ble_eq_true rfl) dX3_init_14 (fun H locs hR hS => ?_)
  have hR : WW D vwCl A0 _ (cvL [(1, 0), (0, 0)]) (ctU _ 0 0 (.inr (4, [.int 100, .int 0, .ref q1]))) H := hR
  refine retn_v (u := _) hC ?_ hR ?_ ?_ hS dX3_init_17
  · rfl
  · intro f i h; exact h
  · intro f i h
    simp only [cvL, List.mem_cons, Prod.mk.injEq, List.not_mem_nil, or_false] at h
    rcases h with ⟨rfl, rfl⟩ | ⟨rfl, rfl⟩
    · exact vE_rfl rfl
    · exact vE_rfl rfl
abbrev ctNK (dA : Nat → ClassId) (u : Nat → Nat → Nat) : Nat → Nat → va_E := ctU (ctU (ct0) 0 0 (.inr (2, [.ref (u 1 0), .int 10]))) 1 0 (.inl (dA 0, 4, .inl (upd (upd (upd (upd (fun _ => 0) 0 100) 1 100) 2 100) 3 100)))
abbrev f0NK : List Value := [.null, .int 0]
set_option maxHeartbeats 4000000 in
set_option maxRecDepth 100000 in
theorem mX1_init (l : Launch) (D : va_G) (dA : Nat → ClassId) (a sz : Nat) : Met l yX1_init (WSy yX1_init cX1_init 2 none) ({ frames := 1, cells := 1, slots := 4, locals := 20 } : Room) (va_Pc [.ref a] (fun U => U.heap.size = sz ∧ a < sz ∧ WW D vwCl (fun _ => True) (fun _ _ => a) (cvL [(0, 0)]) (fun _ _ => .inr (2, f0NK)) U.heap ∧ KS D dA U)) (va_Qv (fun (u : Nat → Nat → Nat) => u 0 0 = a) (fun u t => WW D vwCl (fun q => q = a ∨ sz ≤ q) u (cvL [(1, 0), (0, 0)]) (ctNK dA u) t.heap) (fun q => q = a ∨ sz ≤ q)) 1 4 (fun q => q = a ∨ sz ≤ q) := by
  refine met_ofI (by decide) (Nat.le_of_ble_eq_true rfl) ?_
  intro p e s m below meth c ls hC hin hB hl
  obtain ⟨rfl, ha0, hR, hK⟩ := hB
  have hA : ∀ q : Nat, s.heap.size ≤ q → (fun q => q = a ∨ s.heap.size ≤ q) q := fun q h => Or.inr h
  have hR := WW_fit (B := fun q => q = a ∨ s.heap.size ≤ q) hR (fun f i h => Or.inl rfl)
  have hS : va_S (fun q => q = a ∨ s.heap.size ≤ q) s.heap s.heap [] := va_S.rf
  have hF : ∀ q : Nat, (fun q => q = a ∨ s.heap.size ≤ q) q → q = a ∨ s.heap.size ≤ q := fun _ h => h
  generalize (fun q => q = a ∨ s.heap.size ≤ q) = A0 at hA hR hS hF ⊢
  have hC : CTX p s m _ meth c cX1_init 2 RX1 none := hC
  obtain ⟨hx, hb, hml, hown, hts, hr, hlk⟩ := id hC
  have hl : lv_has ls 2 [(0, .ref a)] := hl
  have hR : WW D vwCl A0 _ (cvL [(0, 0)]) (fun _ _ => .inr (2, f0NK)) s.heap := hR
  refine lv_aload_n hx hb dX1_init_0 rfl (lv_at hl 0 rfl) ?_
  refine W.objInit hx hb hown (hts _ q_154) (hts _ q_63) (hts _ q_64) rfl (by rw [hml]; exact hl.1) rfl dX1_init_1 (Nat.le_of_ble_eq_true rfl) (Nat.le_of_ble_eq_true rfl) ?_
  refine W.eq (g2 := F0 m 4 ls []) rfl ?_
  refine lv_aload_n hx hb dX1_init_4 rfl (lv_at hl 0 rfl) ?_
  refine lv_iconst (v := 4) hx hb dX1_init_5 (by decide) ?_
  refine cn_i 1 0 hx hb (hts _ q_132) hK.1 hR hS hA 4 (by decide) rfl (Nat.le_of_ble_eq_true rfl) (Nat.le_of_ble_eq_true rfl) (Nat.le_of_ble_eq_true rfl) (by decide) dX1_init_6 (fun q1 H hAq hR hS => ?_)
  refine ww_putF (D := D) (ci := 2) (C := RX1) (T := TX1) (N := 2) (ty := .array .int) hx hb hts iuX1 tyX1 tyX1_ok nmX1 hown hK.1 hR hS (f := 0) (i := 0) (by decide) (fs := [.null, .int 0]) rfl rfl 0 (by decide) (hts _ q_155) (fun _ h9 => h9) rfl hin rfl (by decide +kernel) rfl rfl (Nat.le_of_ble_eq_true rfl) dX1_init_8 (fun H locs hR hS => ?_)
  have hR : WW D vwCl A0 _ (cvL [(1, 0), (0, 0)]) (ctU _ 0 0 (.inr (2, [.ref q1, .int 0]))) H := hR
  refine lv_aload_n hx hb dX1_init_11 rfl (lv_at hl 0 rfl) ?_
  refine lv_bipush (v := 10) hx hb dX1_init_12 (by decide) ?_
  refine ww_put (D := D) (ci := 2) (C := RX1) (T := TX1) (N := 2) (ty := .int) hx hb hts iuX1 tyX1 tyX1_ok nmX1 hown hK.1 hR hS (f := 0) (i := 0) (by decide) (fs := [.ref q1, .int 0]) rfl rfl 1 (by decide) (hts _ q_157) (fun _ h9 => h9) rfl (by decide +kernel) rfl rfl (Nat.le_of_ble_eq_true rfl) dX1_init_14 (fun H locs hR hS => ?_)
  have hR : WW D vwCl A0 _ (cvL [(1, 0), (0, 0)]) (ctU _ 0 0 (.inr (2, [.ref q1, .int 10]))) H := hR
  refine lv_iconst (v := 0) hx hb dX1_init_17 (by decide) ?_
  refine lv_istore_n (lv' := [(1, .int 0), (0, .ref a)]) hx hb dX1_init_18 rfl hl (by decide) rfl (fun ls hl => ?_)
  refine lv_iload_n hx hb dX1_init_19 rfl (lv_at hl 0 rfl) ?_
  refine lv_iconst (v := 4) hx hb dX1_init_20 (by decide) ?_
  refine lv_icmp_ge (tgt := 38) hx hb dX1_init_21 (by decide) (fun c2 => absurd c2 (by decide)) (fun c2 => ?_)
  refine lv_aload_n hx hb dX1_init_24 rfl (lv_at hl 1 rfl) ?_
  refine va_get (D := D) (ci := 2) (C := RX1) (T := TX1) (N := 2) hx hb hts iuX1 hown hK.1 (WW_one hR (f := 0) (i := 0) (by decide)) 0 (fs := [.ref q1, .int 10]) rfl rfl 0 (by decide) (hts _ q_155) (fun _ h9 => h9) rfl dX1_init_25 ?_
  refine lv_iload_n hx hb dX1_init_28 rfl (lv_at hl 0 rfl) ?_
  refine lv_bipush (v := 100) hx hb dX1_init_29 (by decide) ?_
  refine ww_iast hx hb hK.1 hR hS 0 (f := 1) (j := 0) (by decide) (cA := dA 0) (n := 4) (fa := fun _ => 0) rfl rfl (show ¬ ((0 : Int32) < 0 ∨ 4 ≤ (0 : Int32).toNatClampNeg) by decide) dX1_init_31 (fun H locs hR hS => ?_)
  have hR : WW D vwCl A0 _ (cvL [(1, 0), (0, 0)]) (ctU _ 1 0 (.inl (dA 0, 4, .inl (upd (fun _ => 0) 0 100)))) H := hR
  refine lv_iinc (v := 1) (lv' := [(1, .int 1), (0, .ref a)]) hx hb dX1_init_32 hl (k := 0) rfl (by decide) (by decide) rfl (fun ls hl => ?_)
  refine lv_goto (tgt := 19) hx hb dX1_init_35 (by decide) ?_
  refine lv_iload_n hx hb dX1_init_19 rfl (lv_at hl 0 rfl) ?_
  refine lv_iconst (v := 4) hx hb dX1_init_20 (by decide) ?_
  refine lv_icmp_ge (tgt := 38) hx hb dX1_init_21 (by decide) (fun c3 => absurd c3 (by decide)) (fun c3 => ?_)
  refine lv_aload_n hx hb dX1_init_24 rfl (lv_at hl 1 rfl) ?_
  refine va_get (D := D) (ci := 2) (C := RX1) (T := TX1) (N := 2) hx hb hts iuX1 hown hK.1 (WW_one hR (f := 0) (i := 0) (by decide)) 0 (fs := [.ref q1, .int 10]) rfl rfl 0 (by decide) (hts _ q_155) (fun _ h9 => h9) rfl dX1_init_25 ?_
  refine lv_iload_n hx hb dX1_init_28 rfl (lv_at hl 0 rfl) ?_
  refine lv_bipush (v := 100) hx hb dX1_init_29 (by decide) ?_
  refine ww_iast hx hb hK.1 hR hS 0 (f := 1) (j := 0) (by decide) (cA := dA 0) (n := 4) (fa := upd (fun _ => 0) 0 100) rfl rfl (show ¬ ((1 : Int32) < 0 ∨ 4 ≤ (1 : Int32).toNatClampNeg) by decide) dX1_init_31 (fun H locs hR hS => ?_)
  have hR : WW D vwCl A0 _ (cvL [(1, 0), (0, 0)]) (ctU _ 1 0 (.inl (dA 0, 4, .inl (upd (upd (fun _ => 0) 0 100) 1 100)))) H := hR
  refine lv_iinc (v := 2) (lv' := [(1, .int 2), (0, .ref a)]) hx hb dX1_init_32 hl (k := 0) rfl (by decide) (by decide) rfl (fun ls hl => ?_)
  refine lv_goto (tgt := 19) hx hb dX1_init_35 (by decide) ?_
  refine lv_iload_n hx hb dX1_init_19 rfl (lv_at hl 0 rfl) ?_
  refine lv_iconst (v := 4) hx hb dX1_init_20 (by decide) ?_
  refine lv_icmp_ge (tgt := 38) hx hb dX1_init_21 (by decide) (fun c4 => absurd c4 (by decide)) (fun c4 => ?_)
  refine lv_aload_n hx hb dX1_init_24 rfl (lv_at hl 1 rfl) ?_
  refine va_get (D := D) (ci := 2) (C := RX1) (T := TX1) (N := 2) hx hb hts iuX1 hown hK.1 (WW_one hR (f := 0) (i := 0) (by decide)) 0 (fs := [.ref q1, .int 10]) rfl rfl 0 (by decide) (hts _ q_155) (fun _ h9 => h9) rfl dX1_init_25 ?_
  refine lv_iload_n hx hb dX1_init_28 rfl (lv_at hl 0 rfl) ?_
  refine lv_bipush (v := 100) hx hb dX1_init_29 (by decide) ?_
  refine ww_iast hx hb hK.1 hR hS 0 (f := 1) (j := 0) (by decide) (cA := dA 0) (n := 4) (fa := upd (upd (fun _ => 0) 0 100) 1 100) rfl rfl (show ¬ ((2 : Int32) < 0 ∨ 4 ≤ (2 : Int32).toNatClampNeg) by decide) dX1_init_31 (fun H locs hR hS => ?_)
  have hR : WW D vwCl A0 _ (cvL [(1, 0), (0, 0)]) (ctU _ 1 0 (.inl (dA 0, 4, .inl (upd (upd (upd (fun _ => 0) 0 100) 1 100) 2 100)))) H := hR
  refine lv_iinc (v := 3) (lv' := [(1, .int 3), (0, .ref a)]) hx hb dX1_init_32 hl (k := 0) rfl (by decide) (by decide) rfl (fun ls hl => ?_)
  refine lv_goto (tgt := 19) hx hb dX1_init_35 (by decide) ?_
  refine lv_iload_n hx hb dX1_init_19 rfl (lv_at hl 0 rfl) ?_
  refine lv_iconst (v := 4) hx hb dX1_init_20 (by decide) ?_
  refine lv_icmp_ge (tgt := 38) hx hb dX1_init_21 (by decide) (fun c5 => absurd c5 (by decide)) (fun c5 => ?_)
  refine lv_aload_n hx hb dX1_init_24 rfl (lv_at hl 1 rfl) ?_
  refine va_get (D := D) (ci := 2) (C := RX1) (T := TX1) (N := 2) hx hb hts iuX1 hown hK.1 (WW_one hR (f := 0) (i := 0) (by decide)) 0 (fs := [.ref q1, .int 10]) rfl rfl 0 (by decide) (hts _ q_155) (fun _ h9 => h9) rfl dX1_init_25 ?_
  refine lv_iload_n hx hb dX1_init_28 rfl (lv_at hl 0 rfl) ?_
  refine lv_bipush (v := 100) hx hb dX1_init_29 (by decide) ?_
  refine ww_iast hx hb hK.1 hR hS 0 (f := 1) (j := 0) (by decide) (cA := dA 0) (n := 4) (fa := upd (upd (upd (fun _ => 0) 0 100) 1 100) 2 100) rfl rfl (show ¬ ((3 : Int32) < 0 ∨ 4 ≤ (3 : Int32).toNatClampNeg) by decide) dX1_init_31 (fun H locs hR hS => ?_)
  have hR : WW D vwCl A0 _ (cvL [(1, 0), (0, 0)]) (ctU _ 1 0 (.inl (dA 0, 4, .inl (upd (upd (upd (upd (fun _ => 0) 0 100) 1 100) 2 100) 3 100)))) H := hR
  refine lv_iinc (v := 4) (lv' := [(1, .int 4), (0, .ref a)]) hx hb dX1_init_32 hl (k := 0) rfl (by decide) (by decide) rfl (fun ls hl => ?_)
  refine lv_goto (tgt := 19) hx hb dX1_init_35 (by decide) ?_
  refine lv_iload_n hx hb dX1_init_19 rfl (lv_at hl 0 rfl) ?_
  refine lv_iconst (v := 4) hx hb dX1_init_20 (by decide) ?_
  refine lv_icmp_ge (tgt := 38) hx hb dX1_init_21 (by decide) (fun c6 => ?_) (fun c6 => absurd (by decide) c6)
  refine retn_v (u := _) hC ?_ hR ?_ ?_ hS dX1_init_38
  · rfl
  · intro f i h; exact h
  · intro f i h
    simp only [cvL, List.mem_cons, Prod.mk.injEq, List.not_mem_nil, or_false] at h
    rcases h with ⟨rfl, rfl⟩ | ⟨rfl, rfl⟩
    · exact vE_rfl rfl
    · exact vE_rfl rfl
