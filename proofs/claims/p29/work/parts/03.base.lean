/-! THE STATE that the program's functions speak of: whole numbers by family and place; and the world that holds it. -/
abbrev St : Type := (Nat → Nat → Nat → Int32) × (Nat → Nat → Nat → Int64) × (Nat → Nat)
def gI (σ : St) (f i j : Nat) : Int32 := σ.1 f i j
def gL (σ : St) (f i j : Nat) : Int64 := σ.2.1 f i j
def gN (σ : St) (k : Nat) : Nat := σ.2.2 k
def pI (σ : St) (f i j : Nat) (v : Int32) : St := (fun a b c => if a = f ∧ b = i ∧ c = j then v else σ.1 a b c, σ.2)
def pL (σ : St) (f i j : Nat) (v : Int64) : St := (σ.1, fun a b c => if a = f ∧ b = i ∧ c = j then v else σ.2.1 a b c, σ.2.2)
def pN (σ : St) (k : Nat) (v : Nat) : St := (σ.1, σ.2.1, fun a => if a = k then v else σ.2.2 a)
theorem gI_pI (σ : St) (f i j a b c : Nat) (v : Int32) : gI (pI σ f i j v) a b c = if a = f ∧ b = i ∧ c = j then v else gI σ a b c := rfl
theorem gL_pL (σ : St) (f i j a b c : Nat) (v : Int64) : gL (pL σ f i j v) a b c = if a = f ∧ b = i ∧ c = j then v else gL σ a b c := rfl
theorem gN_pN (σ : St) (k a : Nat) (v : Nat) : gN (pN σ k v) a = if a = k then v else gN σ a := rfl
theorem gI_pL (σ : St) (f i j a b c : Nat) (v : Int64) : gI (pL σ f i j v) a b c = gI σ a b c := rfl
theorem gI_pN (σ : St) (k a b c : Nat) (v : Nat) : gI (pN σ k v) a b c = gI σ a b c := rfl
theorem gL_pI (σ : St) (f i j a b c : Nat) (v : Int32) : gL (pI σ f i j v) a b c = gL σ a b c := rfl
theorem gL_pN (σ : St) (k a b c : Nat) (v : Nat) : gL (pN σ k v) a b c = gL σ a b c := rfl
theorem gN_pI (σ : St) (f i j k : Nat) (v : Int32) : gN (pI σ f i j v) k = gN σ k := rfl
theorem gN_pL (σ : St) (f i j k : Nat) (v : Int64) : gN (pL σ f i j v) k = gN σ k := rfl
-- words for the functions that a program lays from the bytecode
def kst {α β : Type} (x : α) (k : α → β) : β := k x
theorem kst_eq {α β : Type} {x y : α} {k : α → β} {o : β} (h : y = x) (hf : kst x k = o) : k y = o := by subst h; exact hf
def gd {β : Type} (c : Prop) [Decidable c] (x : Option β) : Option β := if c then x else none
theorem gd_of {β : Type} {c : Prop} [Decidable c] {x : Option β} {o : β} (h : gd c x = some o) : c ∧ x = some o := by
  unfold gd at h
  by_cases q : c
  · rw [if_pos q] at h; exact ⟨q, h⟩
  · rw [if_neg q] at h; cases h
theorem gd_t {β : Type} {c : Prop} [Decidable c] {x : Option β} (h : c) : gd c x = x := if_pos h
def bd {α β : Type} (x : Option α) (k : α → Option β) : Option β := match x with
  | none => none
  | some a => k a
theorem bd_of {α β : Type} {x : Option α} {k : α → Option β} {o : β} (h : bd x k = some o) : ∃ a, x = some a ∧ k a = some o := by
  cases x with
  | none => cases h
  | some a => exact ⟨a, rfl, h⟩
theorem bd_some {α β : Type} (a : α) (k : α → Option β) : bd (some a) k = k a := rfl
theorem if_of_pos {β : Type} {c : Prop} [Decidable c] {x y o : β} (h : (if c then x else y) = o) (q : c) : x = o := by rw [if_pos q] at h; exact h
theorem if_of_neg {β : Type} {c : Prop} [Decidable c] {x y o : β} (h : (if c then x else y) = o) (q : ¬ c) : y = o := by rw [if_neg q] at h; exact h
-- what is taken of the room, told beside the answer
def tk {β : Type} (c s : Nat) (x : Option (β × Nat × Nat)) : Option (β × Nat × Nat) := match x with
  | none => none
  | some (b, m, n) => some (b, c + m, s + n)
theorem tk_of {β : Type} {c s m n : Nat} {x : Option (β × Nat × Nat)} {b : β} (h : tk c s x = some (b, m, n)) : ∃ m' n', x = some (b, m', n') ∧ m = c + m' ∧ n = s + n' := by
  cases x with
  | none => cases h
  | some q =>
    obtain ⟨b', m', n'⟩ := q
    cases h
    exact ⟨m', n', rfl, rfl, rfl⟩
def bt2 {α β : Type} (x : Option (α × Nat × Nat)) (k : α → Option (β × Nat × Nat)) : Option (β × Nat × Nat) := match x with
  | none => none
  | some (a, m, n) => tk m n (k a)
theorem bt2_of {α β : Type} {x : Option (α × Nat × Nat)} {k : α → Option (β × Nat × Nat)} {b : β} {m n : Nat} (h : bt2 x k = some (b, m, n)) : ∃ a m1 n1 m2 n2, x = some (a, m1, n1) ∧ k a = some (b, m2, n2) ∧ m = m1 + m2 ∧ n = n1 + n2 := by
  cases x with
  | none => cases h
  | some q =>
    obtain ⟨a, m1, n1⟩ := q
    obtain ⟨m', n', h1, h2, h3⟩ := tk_of h
    exact ⟨a, m1, n1, m', n', rfl, h1, h2, h3⟩
-- the world: cells by family and place, in a pool of addresses
abbrev WW (D : va_G) (cl : List vw_C) (A : Nat → Prop) (ad : Nat → Nat → Nat) (cv : Nat → Nat → Prop) (ct : Nat → Nat → va_E) (H : Heap) : Prop :=
  (∃ (L : List Nat) (fn : Nat → va_E), va_P D cl (va_pl L fn) H ∧ va_D A (va_pl L fn) ∧ ∀ f i, cv f i → ad f i ∈ L ∧ fn (ad f i) = ct f i) ∧ ∀ f i g j, cv f i → cv g j → ad f i = ad g j → f = g ∧ i = j
theorem pl_at {L : List Nat} {fn : Nat → va_E} {a : Nat} (h : a ∈ L) : ∃ k : Nat, (va_pl L fn)[k]? = some (a, fn a) := by
  obtain ⟨k, hk⟩ := va_pl_get (X := []) (f := fn) h
  exact ⟨k, hk⟩
section WWS
variable {D : va_G} {cl : List vw_C} {A B : Nat → Prop} {ad : Nat → Nat → Nat} {cv cv' : Nat → Nat → Prop} {ct ct' : Nat → Nat → va_E} {H H1 : Heap}
theorem WW_at (h : WW D cl A ad cv ct H) {f i : Nat} (hv : cv f i) : va_at D cl (ad f i, ct f i) H := by
  obtain ⟨⟨L, fn, hP, hD, hc⟩, -⟩ := h
  obtain ⟨hm, he⟩ := hc f i hv
  obtain ⟨k, hk⟩ := pl_at (fn := fn) hm
  rw [← he]
  exact hP k _ hk
theorem one_of {q : Nat × va_E} (h : va_at D cl q H) : va_P D cl [q] H := by
  intro k q' hk
  have hz : k < 1 := (List.getElem?_eq_some_iff.mp hk).1
  rw [show k = 0 by omega] at hk
  cases hk
  exact h
theorem WW_one (h : WW D cl A ad cv ct H) {f i : Nat} (hv : cv f i) : va_P D cl [(ad f i, ct f i)] H := one_of (WW_at h hv)
theorem WW_A (h : WW D cl A ad cv ct H) {f i : Nat} (hv : cv f i) : A (ad f i) := by
  obtain ⟨⟨L, fn, hP, hD, hc⟩, -⟩ := h
  obtain ⟨k, hk⟩ := pl_at (fn := fn) (hc f i hv).1
  exact hD.2 k _ hk
theorem WW_congr (h : WW D cl A ad cv ct H) (hcv : ∀ f i, cv' f i → cv f i) (hct : ∀ f i, cv' f i → ct' f i = ct f i) : WW D cl A ad cv' ct' H := by
  obtain ⟨⟨L, fn, hP, hD, hc⟩, hi⟩ := h
  exact ⟨⟨L, fn, hP, hD, fun f i q => ⟨(hc f i (hcv f i q)).1, by rw [hct f i q]; exact (hc f i (hcv f i q)).2⟩⟩, fun f i g j q1 q2 => hi f i g j (hcv _ _ q1) (hcv _ _ q2)⟩
theorem WW_weaken (h : WW D cl A ad cv ct H) (hAB : ∀ q, A q → B q) : WW D cl B ad cv ct H := by
  obtain ⟨⟨L, fn, hP, hD, hc⟩, hi⟩ := h
  exact ⟨⟨L, fn, hP, hD.weaken (fun _ _ _ q => hAB _ q), hc⟩, hi⟩
theorem WW_lt (h : WW D cl A ad cv ct H) {f i : Nat} (hv : cv f i) : ad f i < H.size := (WW_at h hv).lt
theorem pl_nd {L : List Nat} {fn : Nat → va_E} (hD : va_D A (va_pl L fn)) : L.Nodup := by
  rw [List.nodup_iff_pairwise_ne, List.pairwise_iff_getElem]
  intro a b ha hb hab e2
  have h3 : (va_pl L fn)[a]? = some (L[a], fn L[a]) := by simp [va_pl, ha]
  have h4 : (va_pl L fn)[b]? = some (L[b], fn L[b]) := by simp [va_pl, hb]
  exact absurd (hD.1 a b _ _ h3 h4 e2) (by omega)
theorem pl_D {L : List Nat} {fn : Nat → va_E} (hn : L.Nodup) (hA : ∀ a ∈ L, A a) : va_D A (va_pl L fn) := by
  refine ⟨fun i j p q h1 h2 e => ?_, fun k q hk => ?_⟩
  · simp only [va_pl, List.getElem?_map, Option.map_eq_some_iff] at h1 h2
    obtain ⟨x, hx, rfl⟩ := h1
    obtain ⟨y, hy, rfl⟩ := h2
    dsimp only at e
    subst e
    obtain ⟨hi1, e1⟩ := List.getElem?_eq_some_iff.mp hx
    obtain ⟨hi2, e2⟩ := List.getElem?_eq_some_iff.mp hy
    exact (List.getElem_inj hn).mp (e1.trans e2.symm)
  · have hm : q ∈ va_pl L fn := List.mem_of_getElem? hk
    obtain ⟨a, ha, rfl⟩ := List.mem_map.mp hm
    exact hA a ha
theorem pl_P {L : List Nat} {fn : Nat → va_E} (h : ∀ a ∈ L, va_at D cl (a, fn a) H) : va_P D cl (va_pl L fn) H := by
  intro k q hk
  have hm : q ∈ va_pl L fn := List.mem_of_getElem? hk
  obtain ⟨a, ha, rfl⟩ := List.mem_map.mp hm
  exact h a ha
theorem pl_Pat {L : List Nat} {fn : Nat → va_E} (hP : va_P D cl (va_pl L fn) H) {a : Nat} (ha : a ∈ L) : va_at D cl (a, fn a) H := by
  obtain ⟨k, hk⟩ := pl_at (fn := fn) ha
  exact hP k _ hk
theorem pl_DA {L : List Nat} {fn : Nat → va_E} (hD : va_D A (va_pl L fn)) {a : Nat} (ha : a ∈ L) : A a := by
  obtain ⟨k, hk⟩ := pl_at (fn := fn) ha
  exact hD.2 k _ hk
/-- the pool is just the valid cells -/
theorem WW_fit (h : WW D cl A ad cv ct H) (hB : ∀ f i, cv f i → B (ad f i)) : WW D cl B ad cv ct H := by
  obtain ⟨⟨L, fn, hP, hD, hc⟩, hi⟩ := h
  classical
  refine ⟨⟨L.filter (fun a => decide (∃ f i, cv f i ∧ ad f i = a)), fn, pl_P fun a ha => pl_Pat hP (List.mem_filter.mp ha).1, pl_D ((pl_nd hD).filter _) fun a ha => ?_, fun f i q => ⟨List.mem_filter.mpr ⟨(hc f i q).1, by simp; exact ⟨f, i, q, rfl⟩⟩, (hc f i q).2⟩⟩, hi⟩
  have h5 := (List.mem_filter.mp ha).2
  simp only [decide_eq_true_eq] at h5
  obtain ⟨f, i, hv, rfl⟩ := h5
  exact hB f i hv
end WWS
/-- where a world's calls may write: its own cells, and what is new -/
def WA (ad : Nat → Nat → Nat) (cv : Nat → Nat → Prop) (sz : Nat) : Nat → Prop := fun q => (∃ f i, cv f i ∧ q = ad f i) ∨ sz ≤ q
theorem WA_in {ad : Nat → Nat → Nat} {cv : Nat → Nat → Prop} {sz f i : Nat} (h : cv f i) : WA ad cv sz (ad f i) := Or.inl ⟨f, i, h, rfl⟩
section WWM
variable {D : va_G} {cl : List vw_C} {A0 : Nat → Prop} {ad ad' adA adA' : Nat → Nat → Nat} {cv cv' cvA cvA' : Nat → Nat → Prop} {ct ct' ctA ctA' : Nat → Nat → va_E} {H H1 : Heap}
/-- a smaller world out of a larger one -/
theorem WW_sub (hR : WW D cl A0 ad cv ct H) (hs : ∀ f i, cvA f i → ∃ g j, cv g j ∧ adA f i = ad g j ∧ ctA f i = ct g j) (hi : ∀ f i g j, cvA f i → cvA g j → adA f i = adA g j → f = g ∧ i = j) : WW D cl A0 adA cvA ctA H := by
  obtain ⟨⟨L, fn, hP, hD, hc⟩, -⟩ := hR
  refine ⟨⟨L, fn, hP, hD, fun f i q => ?_⟩, hi⟩
  obtain ⟨g, j, h1, h2, h3⟩ := hs f i q
  rw [h2, h3]
  exact hc g j h1
/-- what a call over a smaller world left, beside the rest, which stayed -/
theorem WW_merge {A1 : Nat → Prop} (hR : WW D cl A0 ad cv ct H) (hA : ∀ q, A1 q → A0 q) (hB : WW D cl A1 adA' cvA' ctA' H1) (hk : ∀ q : Nat, q < H.size → ¬ A1 q → H1[q]? = H[q]?)
    (hn : ∀ g j, cv' g j → (cv g j ∧ ad' g j = ad g j ∧ ct' g j = ct g j ∧ ¬ A1 (ad g j)) ∨ ∃ f i, cvA' f i ∧ ad' g j = adA' f i ∧ ct' g j = ctA' f i)
    (hi : ∀ f i g j, cv' f i → cv' g j → ad' f i = ad' g j → f = g ∧ i = j) : WW D cl A0 ad' cv' ct' H1 := by
  obtain ⟨⟨L, fn, hP, hD, hc⟩, -⟩ := hR
  obtain ⟨⟨L1, fn1, hP1, hD1, hc1⟩, -⟩ := hB
  classical
  refine ⟨⟨L.filter (fun a => decide (¬ A1 a)) ++ L1, fun a => if A1 a then fn1 a else fn a, pl_P fun a ha => ?_, pl_D ?_ fun a ha => ?_, fun g j q => ?_⟩, hi⟩
  · rcases List.mem_append.mp ha with h | h
    · have h1 := (List.mem_filter.mp h).1
      have h2 := (List.mem_filter.mp h).2
      simp only [decide_eq_true_eq] at h2
      rw [if_neg h2]
      have h3 := pl_Pat hP h1
      exact h3.kept (hk a h3.lt h2)
    · rw [if_pos (pl_DA hD1 h)]
      exact pl_Pat hP1 h
  · refine List.nodup_append.mpr ⟨(pl_nd hD).filter _, pl_nd hD1, fun a ha b hb e => ?_⟩
    have h2 := (List.mem_filter.mp ha).2
    simp only [decide_eq_true_eq] at h2
    subst e
    exact h2 (pl_DA hD1 hb)
  · rcases List.mem_append.mp ha with h | h
    · exact pl_DA hD (List.mem_filter.mp h).1
    · exact hA _ (pl_DA hD1 h)
  · rcases hn g j q with ⟨h1, h2, h3, h4⟩ | ⟨f, i, h1, h2, h3⟩
    · rw [h2, h3]
      exact ⟨List.mem_append_left _ (List.mem_filter.mpr ⟨(hc g j h1).1, by simpa using h4⟩), (if_neg h4).trans (hc g j h1).2⟩
    · rw [h2, h3]
      exact ⟨List.mem_append_right _ (hc1 f i h1).1, (if_pos (pl_DA hD1 (hc1 f i h1).1)).trans (hc1 f i h1).2⟩
end WWM
section WWP
variable {D : va_G} {cl : List vw_C} {A : Nat → Prop} {ad : Nat → Nat → Nat} {cv : Nat → Nat → Prop} {ct : Nat → Nat → va_E} {H H1 : Heap} {L : List Nat} {fn : Nat → va_E}
theorem WW_set (hc : ∀ f i, cv f i → ad f i ∈ L ∧ fn (ad f i) = ct f i) (hi : ∀ f i g j, cv f i → cv g j → ad f i = ad g j → f = g ∧ i = j) {f i k : Nat} (hv : cv f i) (hD : va_D A (va_pl L fn)) (hk : (va_pl L fn)[k]? = some (ad f i, fn (ad f i))) {e : va_E} (hP1 : va_P D cl ((va_pl L fn).set k (ad f i, e)) H1) (hD1 : va_D A ((va_pl L fn).set k (ad f i, e))) : WW D cl A ad cv (fun a b => if a = f ∧ b = i then e else ct a b) H1 := by
  have es := va_pl_set (X := []) (f := fn) (e := e) hD (hc f i hv).1 hk
  have es : (va_pl L fn).set k (ad f i, e) = va_pl L (va_up fn (ad f i) e) := es
  rw [es] at hP1 hD1
  refine ⟨⟨L, _, hP1, hD1, fun a b q => ⟨(hc a b q).1, ?_⟩⟩, hi⟩
  by_cases e1 : a = f ∧ b = i
  · obtain ⟨rfl, rfl⟩ := e1
    simp [va_up]
  · have ne : ad a b ≠ ad f i := fun e2 => e1 (hi a b f i q hv e2)
    simp only [va_up, if_neg ne, if_neg e1]
    exact (hc a b q).2
end WWP
section WXS
variable {p : Program} {l : Launch} {e : Env} {R : Room} {s : State} {m : MethodId} {args : Array Value} {below : List Frame} {meth : Method} {c : Code} {H : Heap} {locs : List Loc} {cells slots : Nat} {Q : State → Prop}
variable {cc : ByteArray} {pc : Nat} {ls : Array Slot} {rest : List Value} {D : va_G} {cl : List vw_C} {tys : List (ClassId × FieldType)} {A : Nat → Prop} {ad : Nat → Nat → Nat} {cv : Nat → Nat → Prop} {ct : Nat → Nat → va_E} {H0 : Heap}
theorem ww_put (hexec : p.tables.exec = Jvm.exec) (hb : c.code = cc) {own ref C : String} {T : u_T} {N ci index : Nat} {Ts : List Cond} (hts : ∀ w ∈ Ts, w.before args s = true) (hin : ∀ w ∈ u_ws C T N, w ∈ Ts) (ty0 : Nat → FieldType) (hty : ∀ k, k < N → parseFieldDescriptor (T k).2.2.1 = some (ty0 k)) (hnm : ∀ a, a < N → ∀ b, b < N → a ≠ b → (T a).2.1 ≠ (T b).2.1) (hown : s.vm.findClass own = some m.cls) (hK : va_K D cl tys s) (hR : WW D cl A ad cv ct H) (hS0 : va_S A H0 H locs) {f i : Nat} (hv : cv f i) {fs : List Value} (he : ct f i = .inr (ci, fs)) (hc : cl[ci]? = some (C, T, N)) (k : Nat) (hk : k < N) (hlink : (Cond.fieldLink own index ref (T k).2.1 (T k).2.2.1).before args s = true) (hsame : ∀ x, s.fieldFound? (T k).1 (T k).2.1 (T k).2.2.1 = some x → s.fieldFound? ref (T k).2.1 (T k).2.2.1 = some x) (hfin : (T k).2.2.2 = false) {ty : FieldType} {v : Value} (hd : parseFieldDescriptor (T k).2.2.1 = some ty) (hn : narrow ty v = v) (hfit : fits ty v = true) (hl : k < fs.length)
    (hdg : decode cc pc = .ok (.putfield index, 3)) (kk : ∀ (H1 : Heap) (locs1 : List Loc), WW D cl A ad cv (fun a b => if a = f ∧ b = i then .inr (ci, fs.set k v) else ct a b) H1 → va_S A H0 H1 locs1 → W p l e R s m args below meth c H1 locs1 cells slots Q (F0 m (pc + 3) ls rest)) : W p l e R s m args below meth c H locs cells slots Q (F0 m pc ls (v :: .ref (ad f i) :: rest)) := by
  obtain ⟨⟨L, fn, hP, hD, hcc⟩, hi⟩ := hR
  obtain ⟨q0, hq⟩ := pl_at (fn := fn) (hcc f i hv).1
  refine va_put hexec hb hts hin ty0 hty hnm hown hK hP hD hS0 q0 (hq.trans (by rw [(hcc f i hv).2, he])) hc k hk hlink hsame hfin hd hn hfit hl hdg fun H1 locs1 hP1 hD1 hS1 => ?_
  exact kk H1 locs1 (WW_set hcc hi hv hD hq hP1 hD1) hS1
theorem ww_putF (hexec : p.tables.exec = Jvm.exec) (hb : c.code = cc) {own ref C : String} {T : u_T} {N ci index : Nat} {Ts : List Cond} (hts : ∀ w ∈ Ts, w.before args s = true) (hin : ∀ w ∈ u_ws C T N, w ∈ Ts) (ty0 : Nat → FieldType) (hty : ∀ k, k < N → parseFieldDescriptor (T k).2.2.1 = some (ty0 k)) (hnm : ∀ a, a < N → ∀ b, b < N → a ≠ b → (T a).2.1 ≠ (T b).2.1) (hown : s.vm.findClass own = some m.cls) (hK : va_K D cl tys s) (hR : WW D cl A ad cv ct H) (hS0 : va_S A H0 H locs) {f i : Nat} (hv : cv f i) {fs : List Value} (he : ct f i = .inr (ci, fs)) (hc : cl[ci]? = some (C, T, N)) (k : Nat) (hk : k < N) (hlink : (Cond.fieldLink own index ref (T k).2.1 (T k).2.2.1).before args s = true) (hsame : ∀ x, s.fieldFound? (T k).1 (T k).2.1 (T k).2.2.1 = some x → s.fieldFound? ref (T k).2.1 (T k).2.2.1 = some x) (hfin : (T k).2.2.2 = true) (hin2 : meth.name = "<init>") (hdecl : (T k).1 = own) {ty : FieldType} {v : Value} (hd : parseFieldDescriptor (T k).2.2.1 = some ty) (hn : narrow ty v = v) (hfit : fits ty v = true) (hl : k < fs.length)
    (hdg : decode cc pc = .ok (.putfield index, 3)) (kk : ∀ (H1 : Heap) (locs1 : List Loc), WW D cl A ad cv (fun a b => if a = f ∧ b = i then .inr (ci, fs.set k v) else ct a b) H1 → va_S A H0 H1 locs1 → W p l e R s m args below meth c H1 locs1 cells slots Q (F0 m (pc + 3) ls rest)) : W p l e R s m args below meth c H locs cells slots Q (F0 m pc ls (v :: .ref (ad f i) :: rest)) := by
  obtain ⟨⟨L, fn, hP, hD, hcc⟩, hi⟩ := hR
  obtain ⟨q0, hq⟩ := pl_at (fn := fn) (hcc f i hv).1
  refine va_putF hexec hb hts hin ty0 hty hnm hown hK hP hD hS0 q0 (hq.trans (by rw [(hcc f i hv).2, he])) hc k hk hlink hsame hfin hin2 hdecl hd hn hfit hl hdg fun H1 locs1 hP1 hD1 hS1 => ?_
  exact kk H1 locs1 (WW_set hcc hi hv hD hq hP1 hD1) hS1
theorem ww_putN (hexec : p.tables.exec = Jvm.exec) (hb : c.code = cc) {own ref C host : String} {T : u_T} {N ci index : Nat} {Ts : List Cond} (hts : ∀ w ∈ Ts, w.before args s = true) (hin : ∀ w ∈ u_ws C T N, w ∈ Ts) (ty0 : Nat → FieldType) (hty : ∀ k, k < N → parseFieldDescriptor (T k).2.2.1 = some (ty0 k)) (hnm : ∀ a, a < N → ∀ b, b < N → a ≠ b → (T a).2.1 ≠ (T b).2.1) (hown : s.vm.findClass own = some m.cls) (hK : va_K D cl tys s) (hR : WW D cl A ad cv ct H) (hS0 : va_S A H0 H locs) {f i : Nat} (hv : cv f i) {fs : List Value} (he : ct f i = .inr (ci, fs)) (hc : cl[ci]? = some (C, T, N)) (k : Nat) (hk : k < N) (hlink : (Cond.fieldLinkNest own index ref (T k).2.1 (T k).2.2.1 host).before args s = true) (hsame : ∀ x, s.fieldFound? (T k).1 (T k).2.1 (T k).2.2.1 = some x → s.fieldFound? ref (T k).2.1 (T k).2.2.1 = some x) (hfin : (T k).2.2.2 = false) {ty : FieldType} {v : Value} (hd : parseFieldDescriptor (T k).2.2.1 = some ty) (hn : narrow ty v = v) (hfit : fits ty v = true) (hl : k < fs.length)
    (hdg : decode cc pc = .ok (.putfield index, 3)) (kk : ∀ (H1 : Heap) (locs1 : List Loc), WW D cl A ad cv (fun a b => if a = f ∧ b = i then .inr (ci, fs.set k v) else ct a b) H1 → va_S A H0 H1 locs1 → W p l e R s m args below meth c H1 locs1 cells slots Q (F0 m (pc + 3) ls rest)) : W p l e R s m args below meth c H locs cells slots Q (F0 m pc ls (v :: .ref (ad f i) :: rest)) := by
  obtain ⟨⟨L, fn, hP, hD, hcc⟩, hi⟩ := hR
  obtain ⟨q0, hq⟩ := pl_at (fn := fn) (hcc f i hv).1
  refine va_putN hexec hb hts hin ty0 hty hnm hown hK hP hD hS0 q0 (hq.trans (by rw [(hcc f i hv).2, he])) hc k hk hlink hsame hfin hd hn hfit hl hdg fun H1 locs1 hP1 hD1 hS1 => ?_
  exact kk H1 locs1 (WW_set hcc hi hv hD hq hP1 hD1) hS1
theorem ww_iast (hexec : p.tables.exec = Jvm.exec) (hb : c.code = cc) (hK : va_K D cl tys s) (hR : WW D cl A ad cv ct H) (hS0 : va_S A H0 H locs) (t0 : Nat) {f j : Nat} (hv : cv f j) {cA : ClassId} {n : Nat} {fa : Nat → Int32} (ha : ct f j = .inl (cA, n, .inl fa)) (ht : tys[t0]? = some (cA, .int)) {i : Int32} {x : Int32} (hin : vp_in i n) (hdg : decode cc pc = .ok (.iastore, 1))
    (kk : ∀ (H1 : Heap) (locs1 : List Loc), WW D cl A ad cv (fun a b => if a = f ∧ b = j then .inl (cA, n, .inl (upd fa i.toNatClampNeg x)) else ct a b) H1 → va_S A H0 H1 locs1 → W p l e R s m args below meth c H1 locs1 cells slots Q (F0 m (pc + 1) ls rest)) : W p l e R s m args below meth c H locs cells slots Q (F0 m pc ls (.int x :: .int i :: .ref (ad f j) :: rest)) := by
  obtain ⟨⟨L, fn, hP, hD, hcc⟩, hi⟩ := hR
  obtain ⟨q0, hq⟩ := pl_at (fn := fn) (hcc f j hv).1
  refine va_iast hexec hb hK hP hD hS0 q0 t0 (hq.trans (by rw [(hcc f j hv).2, ha])) ht hin hdg fun H1 locs1 hP1 hD1 hS1 => ?_
  exact kk H1 locs1 (WW_set hcc hi hv hD hq hP1 hD1) hS1
theorem ww_zast (hexec : p.tables.exec = Jvm.exec) (hb : c.code = cc) (hK : va_K D cl tys s) (hR : WW D cl A ad cv ct H) (hS0 : va_S A H0 H locs) (t0 : Nat) {f j : Nat} (hv : cv f j) {cA : ClassId} {n : Nat} {fa : Nat → Int32} (ha : ct f j = .inl (cA, n, .inl fa)) (ht : tys[t0]? = some (cA, .boolean)) {i : Int32} {x : Int32} (hx : vp_nar .boolean x = x) (hin : vp_in i n) (hdg : decode cc pc = .ok (.bastore, 1))
    (kk : ∀ (H1 : Heap) (locs1 : List Loc), WW D cl A ad cv (fun a b => if a = f ∧ b = j then .inl (cA, n, .inl (upd fa i.toNatClampNeg x)) else ct a b) H1 → va_S A H0 H1 locs1 → W p l e R s m args below meth c H1 locs1 cells slots Q (F0 m (pc + 1) ls rest)) : W p l e R s m args below meth c H locs cells slots Q (F0 m pc ls (.int x :: .int i :: .ref (ad f j) :: rest)) := by
  obtain ⟨⟨L, fn, hP, hD, hcc⟩, hi⟩ := hR
  obtain ⟨q0, hq⟩ := pl_at (fn := fn) (hcc f j hv).1
  refine va_zast hexec hb hK hP hD hS0 q0 t0 (hq.trans (by rw [(hcc f j hv).2, ha])) ht hin hdg fun H1 locs1 hP1 hD1 hS1 => ?_
  rw [hx] at hP1 hD1
  exact kk H1 locs1 (WW_set hcc hi hv hD hq hP1 hD1) hS1
theorem ww_last (hexec : p.tables.exec = Jvm.exec) (hb : c.code = cc) (hK : va_K D cl tys s) (hR : WW D cl A ad cv ct H) (hS0 : va_S A H0 H locs) (t0 : Nat) {f j : Nat} (hv : cv f j) {cA : ClassId} {n : Nat} {fa : Nat → Int64} (ha : ct f j = .inl (cA, n, .inr (.inl fa))) (ht : tys[t0]? = some (cA, .long)) {i : Int32} {x : Int64} (hin : vp_in i n) (hdg : decode cc pc = .ok (.lastore, 1))
    (kk : ∀ (H1 : Heap) (locs1 : List Loc), WW D cl A ad cv (fun a b => if a = f ∧ b = j then .inl (cA, n, .inr (.inl (vp_updL fa i.toNatClampNeg x))) else ct a b) H1 → va_S A H0 H1 locs1 → W p l e R s m args below meth c H1 locs1 cells slots Q (F0 m (pc + 1) ls rest)) : W p l e R s m args below meth c H locs cells slots Q (F0 m pc ls (.long x :: .int i :: .ref (ad f j) :: rest)) := by
  obtain ⟨⟨L, fn, hP, hD, hcc⟩, hi⟩ := hR
  obtain ⟨q0, hq⟩ := pl_at (fn := fn) (hcc f j hv).1
  refine va_last hexec hb hK hP hD hS0 q0 t0 (hq.trans (by rw [(hcc f j hv).2, ha])) ht hin hdg fun H1 locs1 hP1 hD1 hS1 => ?_
  exact kk H1 locs1 (WW_set hcc hi hv hD hq hP1 hD1) hS1
end WXS
