/-! the reads of the two lists, over the world of the class (laid by wip/gen/lists.py) -/
def adL (ad : Nat → Nat → Nat) (f0 f1 f2 : Nat) : Nat → Nat → Nat := fun f i => match f with
  | 0 => ad f0 0
  | 1 => ad f1 0
  | _ => ad f2 i
def stL (σ : St) (m n c : Nat) : St := (fun _ _ _ => gI σ m 0 0, fun _ _ _ => 0, fun k => match k with
  | 0 => gN σ n
  | _ => gN σ c)
theorem nI_vin {i : Int32} {n : Nat} (h : vin i n) (hn : n < 2 ^ 31) : ¬ i < 0 ∧ i < nI n := by
  obtain ⟨j, hj, rfl⟩ := vp_in_of (x := i) (n := n) h hn
  exact ⟨nI_pos (by omega), nI_lt hj hn⟩
theorem get_eq {τ : St} {i : Int32} (hi : vin i (gN τ 0)) (hi2 : vin i (gN τ 1)) (hn : gN τ 0 < 2 ^ 31) : fJx4a65c_get_915e3 τ i = some (some i.toNatClampNeg) := by
  obtain ⟨h1, h2⟩ := nI_vin hi hn
  unfold fJx4a65c_get_915e3 fJ15_checkIndex_7cf53 fJ3_checkIndex_8e157 fJx4a65c_elementData_915e3
  rw [if_neg h1, if_pos h2, bd_some, bd_some, gd_t hi2, gd_t (vin_lt hi), bd_some]
section LST
variable {p : Program} {l : Launch} {e : Env} {R : Room} {s : State} {m : MethodId} {args : Array Value} {below : List Frame} {meth : Method} {c : Code} {H H0 H1 : Heap} {locs : List Loc} {cells slots : Nat} {Q : State → Prop}
variable {cc : ByteArray} {pc nL : Nat} {own : String} {ret : Option FieldType} {ls : Array Slot} {lv : List (Nat × Value)} {rest : List Value} {D : va_G} {dA : Nat → ClassId} {A0 : Nat → Prop} {ad : Nat → Nat → Nat} {σ : St}
theorem cast_of (hx : p.tables.exec = Jvm.exec) (hb : c.code = cc) {nm : String} {index a ci : Nat} {T : u_T} {N : Nat} {fs : List Value} (hown : s.vm.findClass own = some m.cls) (hlink : (Cond.classLink own index nm).before args s = true) (hK : KS D dA s) {e1 : va_E} (h : va_at D vwCl (a, e1) H) (he : e1 = .inr (ci, fs)) (hc : vwCl[ci]? = some (nm, T, N)) (hdg : decode cc pc = .ok (.checkcast index, 3))
    (k : W p l e R s m args below meth c H locs cells slots Q (F0 m (pc + 3) ls (.ref a :: rest))) : W p l e R s m args below meth c H locs cells slots Q (F0 m pc ls (.ref a :: rest)) := by
  subst he
  exact va_castS hx hb hown hlink (hK.1.1 ci _ hc).2 (va_recv hK.1 (one_of h) (q0 := 0) hc rfl) hdg k
theorem sub_12 (h : HC D dA A0 ad σ H) : HA D dA A0 (adL ad 12 13 17) (stL σ 22 0 2) H := by
  refine WW_sub h (fun f i q => ?_) (fun f i g j q1 q2 e => ?_)
  · match f, q with
    | 0, q => exact ⟨12, 0, rfl, rfl, rfl⟩
    | 1, q => exact ⟨13, 0, ⟨rfl, q.2⟩, rfl, rfl⟩
    | f + 2, q => exact absurd q (by simp [cvA])
  · match f, g, q1, q2, e with
    | 0, 0, q1, q2, e => exact ⟨rfl, q1.trans q2.symm⟩
    | 0, 1, q1, q2, e => exact absurd (h.2 12 0 13 0 rfl ⟨rfl, q2.2⟩ e).1 (by decide)
    | 1, 0, q1, q2, e => exact absurd (h.2 13 0 12 0 ⟨rfl, q1.2⟩ rfl e).1 (by decide)
    | 1, 1, q1, q2, e => exact ⟨rfl, q1.1.trans q2.1.symm⟩
    | 0, g + 2, q1, q2, e => exact absurd q2 (by simp [cvA])
    | 1, g + 2, q1, q2, e => exact absurd q2 (by simp [cvA])
    | f + 2, g, q1, q2, e => exact absurd q1 (by simp [cvA])
theorem out_12 (h : HC D dA A0 ad σ H) {g j : Nat} (hv : cvC σ g j) (h1 : g ≠ 12) (h2 : g ≠ 13) : ¬ WA (adL ad 12 13 17) (cvA (stL σ 22 0 2)) H.size (ad g j) := by
  rintro (⟨f, i, q, e⟩ | q)
  · match f, q, e with
    | 0, q, e => exact h1 (h.2 g j 12 0 hv rfl e).1
    | 1, q, e => exact h2 (h.2 g j 13 0 hv ⟨rfl, q.2⟩ e).1
    | f + 2, q, e => exact absurd q (by simp [cvA])
  · exact absurd (WW_lt h hv) (by omega)
theorem fits_12 (hA : ∀ q, H0.size ≤ q → A0 q) (h : HC D dA A0 ad σ H) (hS : va_S A0 H0 H locs) : ∀ q, WA (adL ad 12 13 17) (cvA (stL σ 22 0 2)) H.size q → A0 q := fun q hq => wa_fits hA (sub_12 h) hS hq
theorem back_12 (hA : ∀ q, H0.size ≤ q → A0 q) (h : HC D dA A0 ad σ H) (hS : va_S A0 H0 H locs) (hB : HA D dA (WA (adL ad 12 13 17) (cvA (stL σ 22 0 2)) H.size) (adL ad 12 13 17) (stL σ 22 0 2) H1) (hk : ∀ q : Nat, q < H.size → ¬ WA (adL ad 12 13 17) (cvA (stL σ 22 0 2)) H.size q → H1[q]? = H[q]?) : HC D dA A0 ad σ H1 := by
  refine WW_merge h (fits_12 hA h hS) hB hk (fun g j hv => ?_) h.2
  by_cases h1 : g = 12
  · subst h1
    have hj : j = 0 := hv
    subst hj
    exact Or.inr ⟨0, 0, rfl, rfl, rfl⟩
  by_cases h2 : g = 13
  · subst h2
    have hj : j = 0 := hv.1
    subst hj
    exact Or.inr ⟨1, 0, ⟨rfl, hv.2⟩, rfl, rfl⟩
  exact Or.inl ⟨hv, rfl, rfl, out_12 h hv h1 h2⟩
theorem ls_size12 {idx : Nat} (hC : CTX p s m args meth c cc nL own ret) (hK : KS D dA s) (hA : ∀ q, s.heap.size ≤ q → A0 q) (hR : HC D dA A0 ad σ H) (hS : va_S A0 s.heap H locs) (hl : lv_has ls nL lv) (hlink : Cond.methodLink own idx yJx4a65c_size_8abf5 ∈ WU) (hroom : 0 + 1 ≤ R.frames ∧ 8 + (1 + 11) + 0 ≤ R.locals) (hW : 2 * (F0 m pc ls (.ref (ad 12 0) :: rest)).monitorRoom + (rest.map fun v => v.category).sum ≤ 8) (hcs : cells + 0 ≤ R.cells ∧ slots + 0 ≤ R.slots) (hdg : decode cc pc = .ok (.invokevirtual idx, 3))
    (kk : ∀ (H1 : Heap) (locs1 : List Loc), HC D dA A0 ad σ H1 → va_S A0 s.heap H1 locs1 → W p l e R s m args below meth c H1 locs1 cells slots Q (F0 m (pc + 3) ls (.int (nI (gN σ 0)) :: rest))) : W p l e R s m args below meth c H locs cells slots Q (F0 m pc ls (.ref (ad 12 0) :: rest)) := by
  obtain ⟨hx, hb, hml, hown, hts, hr, hlk⟩ := id hC
  have hB := sub_12 hR
  refine va_calli (va_runV (As := []) (rest := rest) ⟨hx, hb, hml, hown, hts⟩ (mJx4a65c_size_8abf5 l D dA (adL ad 12 13 17) (stL σ 22 0 2) H.size _ rfl) (cwV 0 hts (gV_of hlink q_198 q_199 q_38 q_200) rfl rfl rfl (by decide +kernel) hroom) (preV_of hB hK (f := 0) (i := 0) rfl rfl rfl _) rfl rfl hl.1 rfl hW hdg hcs) hS (fun q _ h => fits_12 hA hR hS q h) (fun q h => fits_12 hA hR hS q h) (fun r' u t H1 locs1 ht hvm hw hB1 hz hk hS1 => ?_)
  subst hw
  rw [ht] at hB1
  exact kk H1 locs1 (back_12 hA hR hS hB1 hk) hS1
theorem ls_get12 {idx : Nat} {i : Int32} (hC : CTX p s m args meth c cc nL own ret) (hK : KS D dA s) (hA : ∀ q, s.heap.size ≤ q → A0 q) (hR : HC D dA A0 ad σ H) (hS : va_S A0 s.heap H locs) (hl : lv_has ls nL lv) (hi : vin i (gN σ 0)) (hi2 : vin i (gN σ 2)) (hn : gN σ 0 < 2 ^ 31) (hlink : Cond.methodLink own idx yJx4a65c_get_915e3 ∈ WU) (hroom : 2 + 1 ≤ R.frames ∧ 8 + (2 + 11) + 43 ≤ R.locals) (hW : 2 * (F0 m pc ls (.int i :: .ref (ad 12 0) :: rest)).monitorRoom + (rest.map fun v => v.category).sum ≤ 8) (hcs : cells + 0 ≤ R.cells ∧ slots + 0 ≤ R.slots) (hdg : decode cc pc = .ok (.invokevirtual idx, 3))
    (kk : ∀ (H1 : Heap) (locs1 : List Loc), HC D dA A0 ad σ H1 → va_S A0 s.heap H1 locs1 → W p l e R s m args below meth c H1 locs1 cells slots Q (F0 m (pc + 3) ls (.ref (ad 17 i.toNatClampNeg) :: rest))) : W p l e R s m args below meth c H locs cells slots Q (F0 m pc ls (.int i :: .ref (ad 12 0) :: rest)) := by
  obtain ⟨hx, hb, hml, hown, hts, hr, hlk⟩ := id hC
  have hB := sub_12 hR
  have hg : fJx4a65c_get_915e3 (stL σ 22 0 2) i = some (some i.toNatClampNeg) := get_eq hi hi2 hn
  refine va_callq (va_runV (As := [.int i]) (rest := rest) ⟨hx, hb, hml, hown, hts⟩ (mJx4a65c_get_915e3 l D dA (adL ad 12 13 17) (stL σ 22 0 2) H.size i _ hg) (cwV 1 hts (gV_of hlink q_266 q_267 q_38 q_268) rfl rfl rfl (by decide +kernel) hroom) (preV_of hB hK (f := 0) (i := 0) rfl rfl rfl _) rfl rfl hl.1 rfl hW hdg hcs) hS (fun q _ h => fits_12 hA hR hS q h) (fun q h => fits_12 hA hR hS q h) (fun r' u t H1 locs1 ht hvm hw hB1 hz hk hS1 => ?_)
  subst hw
  rw [ht] at hB1
  exact kk H1 locs1 (back_12 hA hR hS hB1 hk) hS1
theorem sub_14 (h : HC D dA A0 ad σ H) : HA D dA A0 (adL ad 14 15 18) (stL σ 23 1 3) H := by
  refine WW_sub h (fun f i q => ?_) (fun f i g j q1 q2 e => ?_)
  · match f, q with
    | 0, q => exact ⟨14, 0, rfl, rfl, rfl⟩
    | 1, q => exact ⟨15, 0, ⟨rfl, q.2⟩, rfl, rfl⟩
    | f + 2, q => exact absurd q (by simp [cvA])
  · match f, g, q1, q2, e with
    | 0, 0, q1, q2, e => exact ⟨rfl, q1.trans q2.symm⟩
    | 0, 1, q1, q2, e => exact absurd (h.2 14 0 15 0 rfl ⟨rfl, q2.2⟩ e).1 (by decide)
    | 1, 0, q1, q2, e => exact absurd (h.2 15 0 14 0 ⟨rfl, q1.2⟩ rfl e).1 (by decide)
    | 1, 1, q1, q2, e => exact ⟨rfl, q1.1.trans q2.1.symm⟩
    | 0, g + 2, q1, q2, e => exact absurd q2 (by simp [cvA])
    | 1, g + 2, q1, q2, e => exact absurd q2 (by simp [cvA])
    | f + 2, g, q1, q2, e => exact absurd q1 (by simp [cvA])
theorem out_14 (h : HC D dA A0 ad σ H) {g j : Nat} (hv : cvC σ g j) (h1 : g ≠ 14) (h2 : g ≠ 15) : ¬ WA (adL ad 14 15 18) (cvA (stL σ 23 1 3)) H.size (ad g j) := by
  rintro (⟨f, i, q, e⟩ | q)
  · match f, q, e with
    | 0, q, e => exact h1 (h.2 g j 14 0 hv rfl e).1
    | 1, q, e => exact h2 (h.2 g j 15 0 hv ⟨rfl, q.2⟩ e).1
    | f + 2, q, e => exact absurd q (by simp [cvA])
  · exact absurd (WW_lt h hv) (by omega)
theorem fits_14 (hA : ∀ q, H0.size ≤ q → A0 q) (h : HC D dA A0 ad σ H) (hS : va_S A0 H0 H locs) : ∀ q, WA (adL ad 14 15 18) (cvA (stL σ 23 1 3)) H.size q → A0 q := fun q hq => wa_fits hA (sub_14 h) hS hq
theorem back_14 (hA : ∀ q, H0.size ≤ q → A0 q) (h : HC D dA A0 ad σ H) (hS : va_S A0 H0 H locs) (hB : HA D dA (WA (adL ad 14 15 18) (cvA (stL σ 23 1 3)) H.size) (adL ad 14 15 18) (stL σ 23 1 3) H1) (hk : ∀ q : Nat, q < H.size → ¬ WA (adL ad 14 15 18) (cvA (stL σ 23 1 3)) H.size q → H1[q]? = H[q]?) : HC D dA A0 ad σ H1 := by
  refine WW_merge h (fits_14 hA h hS) hB hk (fun g j hv => ?_) h.2
  by_cases h1 : g = 14
  · subst h1
    have hj : j = 0 := hv
    subst hj
    exact Or.inr ⟨0, 0, rfl, rfl, rfl⟩
  by_cases h2 : g = 15
  · subst h2
    have hj : j = 0 := hv.1
    subst hj
    exact Or.inr ⟨1, 0, ⟨rfl, hv.2⟩, rfl, rfl⟩
  exact Or.inl ⟨hv, rfl, rfl, out_14 h hv h1 h2⟩
theorem ls_size14 {idx : Nat} (hC : CTX p s m args meth c cc nL own ret) (hK : KS D dA s) (hA : ∀ q, s.heap.size ≤ q → A0 q) (hR : HC D dA A0 ad σ H) (hS : va_S A0 s.heap H locs) (hl : lv_has ls nL lv) (hlink : Cond.methodLink own idx yJx4a65c_size_8abf5 ∈ WU) (hroom : 0 + 1 ≤ R.frames ∧ 8 + (1 + 11) + 0 ≤ R.locals) (hW : 2 * (F0 m pc ls (.ref (ad 14 0) :: rest)).monitorRoom + (rest.map fun v => v.category).sum ≤ 8) (hcs : cells + 0 ≤ R.cells ∧ slots + 0 ≤ R.slots) (hdg : decode cc pc = .ok (.invokevirtual idx, 3))
    (kk : ∀ (H1 : Heap) (locs1 : List Loc), HC D dA A0 ad σ H1 → va_S A0 s.heap H1 locs1 → W p l e R s m args below meth c H1 locs1 cells slots Q (F0 m (pc + 3) ls (.int (nI (gN σ 1)) :: rest))) : W p l e R s m args below meth c H locs cells slots Q (F0 m pc ls (.ref (ad 14 0) :: rest)) := by
  obtain ⟨hx, hb, hml, hown, hts, hr, hlk⟩ := id hC
  have hB := sub_14 hR
  refine va_calli (va_runV (As := []) (rest := rest) ⟨hx, hb, hml, hown, hts⟩ (mJx4a65c_size_8abf5 l D dA (adL ad 14 15 18) (stL σ 23 1 3) H.size _ rfl) (cwV 0 hts (gV_of hlink q_198 q_199 q_38 q_200) rfl rfl rfl (by decide +kernel) hroom) (preV_of hB hK (f := 0) (i := 0) rfl rfl rfl _) rfl rfl hl.1 rfl hW hdg hcs) hS (fun q _ h => fits_14 hA hR hS q h) (fun q h => fits_14 hA hR hS q h) (fun r' u t H1 locs1 ht hvm hw hB1 hz hk hS1 => ?_)
  subst hw
  rw [ht] at hB1
  exact kk H1 locs1 (back_14 hA hR hS hB1 hk) hS1
theorem ls_get14 {idx : Nat} {i : Int32} (hC : CTX p s m args meth c cc nL own ret) (hK : KS D dA s) (hA : ∀ q, s.heap.size ≤ q → A0 q) (hR : HC D dA A0 ad σ H) (hS : va_S A0 s.heap H locs) (hl : lv_has ls nL lv) (hi : vin i (gN σ 1)) (hi2 : vin i (gN σ 3)) (hn : gN σ 1 < 2 ^ 31) (hlink : Cond.methodLink own idx yJx4a65c_get_915e3 ∈ WU) (hroom : 2 + 1 ≤ R.frames ∧ 8 + (2 + 11) + 43 ≤ R.locals) (hW : 2 * (F0 m pc ls (.int i :: .ref (ad 14 0) :: rest)).monitorRoom + (rest.map fun v => v.category).sum ≤ 8) (hcs : cells + 0 ≤ R.cells ∧ slots + 0 ≤ R.slots) (hdg : decode cc pc = .ok (.invokevirtual idx, 3))
    (kk : ∀ (H1 : Heap) (locs1 : List Loc), HC D dA A0 ad σ H1 → va_S A0 s.heap H1 locs1 → W p l e R s m args below meth c H1 locs1 cells slots Q (F0 m (pc + 3) ls (.ref (ad 18 i.toNatClampNeg) :: rest))) : W p l e R s m args below meth c H locs cells slots Q (F0 m pc ls (.int i :: .ref (ad 14 0) :: rest)) := by
  obtain ⟨hx, hb, hml, hown, hts, hr, hlk⟩ := id hC
  have hB := sub_14 hR
  have hg : fJx4a65c_get_915e3 (stL σ 23 1 3) i = some (some i.toNatClampNeg) := get_eq hi hi2 hn
  refine va_callq (va_runV (As := [.int i]) (rest := rest) ⟨hx, hb, hml, hown, hts⟩ (mJx4a65c_get_915e3 l D dA (adL ad 14 15 18) (stL σ 23 1 3) H.size i _ hg) (cwV 1 hts (gV_of hlink q_266 q_267 q_38 q_268) rfl rfl rfl (by decide +kernel) hroom) (preV_of hB hK (f := 0) (i := 0) rfl rfl rfl _) rfl rfl hl.1 rfl hW hdg hcs) hS (fun q _ h => fits_14 hA hR hS q h) (fun q h => fits_14 hA hR hS q h) (fun r' u t H1 locs1 ht hvm hw hB1 hz hk hS1 => ?_)
  subst hw
  rw [ht] at hB1
  exact kk H1 locs1 (back_14 hA hR hS hB1 hk) hS1
end LST

