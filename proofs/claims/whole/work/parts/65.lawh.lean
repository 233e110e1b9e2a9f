/-! THE LAW'S WORLD: the class's cells and the row, the reference's cells, apart -/
theorem WW_keep {D : va_G} {cl : List vw_C} {A0 A1 : Nat → Prop} {ad : Nat → Nat → Nat} {cv : Nat → Nat → Prop} {ct : Nat → Nat → va_E} {H H1 : Heap} (h : WW D cl A0 ad cv ct H) (hk : ∀ q : Nat, q < H.size → ¬ A1 q → H1[q]? = H[q]?) (hd : ∀ f i, cv f i → ¬ A1 (ad f i)) : WW D cl A0 ad cv ct H1 := by
  have hB := WW_fit (B := fun q => A0 q ∧ ¬ A1 q) h (fun f i q => ⟨WW_A h q, hd f i q⟩)
  obtain ⟨⟨L, fn, hP, hD, hc⟩, hi⟩ := hB
  exact ⟨⟨L, fn, pl_P fun a ha => (pl_Pat hP ha).kept (hk a (pl_Pat hP ha).lt (pl_DA hD ha).2), hD.weaken (fun _ _ _ q => q.1), hc⟩, hi⟩
/-- a call over one world leaves another one, apart from it, as it was, and apart -/
theorem two_call {D : va_G} {cl : List vw_C} {A0 : Nat → Prop} {ax ay ax' : Nat → Nat → Nat} {cvx cvy cvx' : Nat → Nat → Prop} {cty ctx' : Nat → Nat → va_E} {H H1 : Heap} (hY : WW D cl A0 ay cvy cty H) (hd : ∀ f i g j, cvx f i → cvy g j → ax f i ≠ ay g j) {B : Nat → Prop} (hB : WW D cl B ax' cvx' ctx' H1) (hBA : ∀ q, B q → WA ax cvx H.size q) (hk : ∀ q : Nat, q < H.size → ¬ WA ax cvx H.size q → H1[q]? = H[q]?) : WW D cl A0 ay cvy cty H1 ∧ ∀ f i g j, cvx' f i → cvy g j → ax' f i ≠ ay g j := by
  have ho : ∀ g j, cvy g j → ¬ WA ax cvx H.size (ay g j) := fun g j q z => by
    rcases z with ⟨f, i, hv, e⟩ | z
    · exact hd f i g j hv q e.symm
    · have := WW_lt hY q
      omega
  exact ⟨WW_keep hY hk ho, fun f i g j q1 q2 e => ho g j q2 (by rw [← e]; exact hBA _ (WW_A hB q1))⟩
theorem WW_wa {D : va_G} {cl : List vw_C} {A0 : Nat → Prop} {ad : Nat → Nat → Nat} {cv : Nat → Nat → Prop} {ct : Nat → Nat → va_E} {H H0 : Heap} {locs : List Loc} (hA : ∀ q, H0.size ≤ q → A0 q) (hR : WW D cl A0 ad cv ct H) (hS : va_S A0 H0 H locs) (q : Nat) (h : WA ad cv H.size q) : A0 q := by
  rcases h with ⟨f, i, hv, rfl⟩ | h
  · exact WW_A hR hv
  · exact hA q (Nat.le_trans hS.1 h)
abbrev newA (s : State) : Nat → Prop := fun q => s.heap.size ≤ q
theorem newA_in (s : State) : ∀ q, s.heap.size ≤ q → newA s q := fun _ h => h
def LGS (D : va_G) (dA : Nat → ClassId) (s : State) (x a am o : Nat) (σ τ : St) (v : Nat → Int64) (ad adm : Nat → Nat → Nat) (H : Heap) (locs : List Loc) : Prop := (HT D dA (newA s) ad o σ v H) ∧ (HM D dA (newA s) adm τ H) ∧ (∀ f i g j, cvT σ f i → cvM τ g j → adT ad o f i ≠ adm g j) ∧ (LX ad σ x) ∧ (ad 0 0 = a) ∧ (adm 0 0 = am) ∧ (va_S (newA s) s.heap H locs)
theorem LGS.hT {D : va_G} {dA : Nat → ClassId} {s : State} {x a am o : Nat} {σ τ : St} {v : Nat → Int64} {ad adm : Nat → Nat → Nat} {H : Heap} {locs : List Loc} (h : LGS D dA s x a am o σ τ v ad adm H locs) : HT D dA (newA s) ad o σ v H := h.1
theorem LGS.hM {D : va_G} {dA : Nat → ClassId} {s : State} {x a am o : Nat} {σ τ : St} {v : Nat → Int64} {ad adm : Nat → Nat → Nat} {H : Heap} {locs : List Loc} (h : LGS D dA s x a am o σ τ v ad adm H locs) : HM D dA (newA s) adm τ H := h.2.1
theorem LGS.hJ {D : va_G} {dA : Nat → ClassId} {s : State} {x a am o : Nat} {σ τ : St} {v : Nat → Int64} {ad adm : Nat → Nat → Nat} {H : Heap} {locs : List Loc} (h : LGS D dA s x a am o σ τ v ad adm H locs) : ∀ f i g j, cvT σ f i → cvM τ g j → adT ad o f i ≠ adm g j := h.2.2.1
theorem LGS.hL {D : va_G} {dA : Nat → ClassId} {s : State} {x a am o : Nat} {σ τ : St} {v : Nat → Int64} {ad adm : Nat → Nat → Nat} {H : Heap} {locs : List Loc} (h : LGS D dA s x a am o σ τ v ad adm H locs) : LX ad σ x := h.2.2.2.1
theorem LGS.h0 {D : va_G} {dA : Nat → ClassId} {s : State} {x a am o : Nat} {σ τ : St} {v : Nat → Int64} {ad adm : Nat → Nat → Nat} {H : Heap} {locs : List Loc} (h : LGS D dA s x a am o σ τ v ad adm H locs) : ad 0 0 = a := h.2.2.2.2.1
theorem LGS.m0 {D : va_G} {dA : Nat → ClassId} {s : State} {x a am o : Nat} {σ τ : St} {v : Nat → Int64} {ad adm : Nat → Nat → Nat} {H : Heap} {locs : List Loc} (h : LGS D dA s x a am o σ τ v ad adm H locs) : adm 0 0 = am := h.2.2.2.2.2.1
theorem LGS.hS {D : va_G} {dA : Nat → ClassId} {s : State} {x a am o : Nat} {σ τ : St} {v : Nat → Int64} {ad adm : Nat → Nat → Nat} {H : Heap} {locs : List Loc} (h : LGS D dA s x a am o σ τ v ad adm H locs) : va_S (newA s) s.heap H locs := h.2.2.2.2.2.2
/-- what holds throughout: the classes, the shared cells, the casts -/
abbrev LK (D : va_G) (dA : Nat → ClassId) (s : State) (x mi : Nat) : Prop := KS D dA s ∧ EXT x mi (newA s) s s.heap ∧ NC s
section LAWH
variable {p : Program} {l : Launch} {e : Env} {R : Room} {s : State} {m : MethodId} {args : Array Value} {below : List Frame} {meth : Method} {c : Code} {H : Heap} {locs : List Loc} {cells slots : Nat} {Q : State → Prop}
variable {pc : Nat} {ls : Array Slot} {rest st0 : List Value} {D : va_G} {dA : Nat → ClassId} {ad adm : Nat → Nat → Nat} {o am : Nat} {σ τ σ' τ' : St} {v : Nat → Int64} {a : Array Value} {mc ms x mi : Nat} {X : List Nat}
theorem preLT_of (hK : LK D dA s x mi) (h : LGS D dA s x (ad 0 0) am o σ τ v ad adm H locs) (As : List Value) : PreS s H (va_Pc As (PreT D dA ad o σ v x mi H.size)) As := by
  refine ⟨fun a U g mk q => ?_, fun U hU hW => ⟨rfl, by rw [hU], by rw [hU]; exact WW_weaken h.hT (fun _ _ => trivial), KS_warm hW hK.1, EXT_at hK.2.1 h.hS (WW_wa (newA_in s) h.hT h.hS) hU hW, h.hL, NC_moved hW.alike hK.2.2⟩⟩
  obtain ⟨q0, q1, q2, q3, q4, q5, q6⟩ := q
  exact ⟨q0, q1, q2, KS_calling q3, EXT_calling q4, q5, NC_moved (u := U) (U := U.calling g mk a) (Vm.Alike.refl U.vm) q6⟩
theorem kLT {u : XO (Int32 × St)} {g : Int32 → Int64} (hr : va_Run p l e R s m args below meth c H locs cells slots mc ms (F0 m pc ls st0) rest (QT xcat g u D dA X ad o σ v x (WT ad o σ H.size) a) (WT ad o σ H.size)) (hX : 0 ∉ X) (h : LGS D dA s x (ad 0 0) am o σ τ v ad adm H locs)
    (kk : ∀ (z : Int32) (σ' : St) (v' : Nat → Int64) (ad' : Nat → Nat → Nat) (H1 : Heap) (locs1 : List Loc), XT xcat g u v z (σ', v') → LGS D dA s x (ad 0 0) am o σ' τ v' ad' adm H1 locs1 → W p l e R s m args below meth c H1 locs1 (cells + mc) (slots + ms) Q (F0 m (pc + 3) ls (.int z :: rest))) : W p l e R s m args below meth c H locs cells slots Q (F0 m pc ls st0) :=
  va_calli hr h.hS (fun q _ z => WW_wa (newA_in s) h.hT h.hS q z) (WW_wa (newA_in s) h.hT h.hS) (fun r w t H1 locs1 ht hvm hw hB hz hk hS1 => by
    obtain ⟨e1, e2, e3⟩ := hw
    have hB : HT D dA (WT ad o σ H.size) w.1 o w.2.1 w.2.2 t.heap := hB
    rw [ht] at hB
    obtain ⟨b1, b2⟩ := two_call h.hM h.hJ hB (fun q z => z) hk
    exact kk r w.2.1 w.2.2 w.1 H1 locs1 e1 ⟨WW_weaken hB (WW_wa (newA_in s) h.hT h.hS), b1, b2, e3, (e2 0 0 rfl hX).1, h.m0, hS1⟩)
theorem preLM_of {a0 : Nat} (hK : LK D dA s x mi) (h : LGS D dA s x a0 (adm 0 0) o σ τ v ad adm H locs) (As : List Value) : PreV s H RX6 (adm 0 0) (va_Pc (.ref (adm 0 0) :: As) (fun U => U.heap.size = H.size ∧ HM D dA (fun _ => True) adm τ U.heap ∧ KS D dA U)) As :=
  preV_of (q := (RX6, TX6, 22)) h.hM hK.1 (f := 0) (i := 0) rfl rfl rfl As
theorem kLM {a0 : Nat} {r : Int32} (hr : va_Run p l e R s m args below meth c H locs cells slots 0 0 (F0 m pc ls st0) rest (va_Qi (fun (z : Int32) (_ : Unit) => z = r) (fun _ t => HM D dA (WA adm (cvM τ) H.size) adm τ' t.heap) (WA adm (cvM τ) H.size) a) (WA adm (cvM τ) H.size)) (h : LGS D dA s x a0 (adm 0 0) o σ τ v ad adm H locs)
    (kk : ∀ (H1 : Heap) (locs1 : List Loc), LGS D dA s x a0 (adm 0 0) o σ τ' v ad adm H1 locs1 → W p l e R s m args below meth c H1 locs1 cells slots Q (F0 m (pc + 3) ls (.int r :: rest))) : W p l e R s m args below meth c H locs cells slots Q (F0 m pc ls st0) :=
  va_calli hr h.hS (fun q _ z => WW_wa (newA_in s) h.hM h.hS q z) (WW_wa (newA_in s) h.hM h.hS) (fun r w t H1 locs1 ht hvm hw hB hz hk hS1 => by
    subst hw
    have hB : HM D dA (WA adm (cvM τ) H.size) adm τ' t.heap := hB
    rw [ht] at hB
    obtain ⟨b1, b2⟩ := two_call (ax' := adm) (cvx' := cvM τ') h.hT (fun f i g j q1 q2 e => h.hJ g j f i q2 q1 e.symm) hB (fun q z => z) hk
    exact kk H1 locs1 ⟨b1, WW_weaken hB (WW_wa (newA_in s) h.hM h.hS), fun f i g j q1 q2 e => b2 g j f i q2 q1 e.symm, h.hL, h.h0, rfl, hS1⟩)
theorem preLC_of (hK : LK D dA s x mi) (h : LGS D dA s x (ad 0 0) am o σ τ v ad adm H locs) (As : List Value) : PreV s H RX5 (ad 0 0) (va_Pc (.ref (ad 0 0) :: As) (fun U => U.heap.size = H.size ∧ HC D dA (fun _ => True) ad σ U.heap ∧ KS D dA U)) As :=
  preV_of (q := (RX5, TX5, 8)) (HT_C h.hT) hK.1 (f := 0) (i := 0) rfl rfl rfl As
theorem LGS_back {B : Nat → Prop} {ad' : Nat → Nat → Nat} {H1 : Heap} {locs1 : List Loc} (h : LGS D dA s x (ad 0 0) am o σ τ v ad adm H locs) (hB : HC D dA (WA ad (cvC σ) H.size) ad' σ' H1) (hL : LX ad' σ' x) (h0 : ad' 0 0 = ad 0 0) (hk : ∀ q : Nat, q < H.size → ¬ WA ad (cvC σ) H.size q → H1[q]? = H[q]?) (hS1 : va_S (newA s) s.heap H1 locs1) : LGS D dA s x (ad 0 0) am o σ' τ v ad' adm H1 locs1 := by
  have hw : ∀ q, WA ad (cvC σ) H.size q → WT ad o σ H.size q := fun q z => by
    rcases z with ⟨f, i, hv, e⟩ | z
    · exact Or.inl ⟨f, i, cvT_of hv, by rw [adT_ne (by have := cvC_lt hv; omega)]; exact e⟩
    · exact Or.inr z
  have hR : HT D dA (WT ad o σ H.size) ad o σ v H := WW_fit h.hT (fun f i z => WA_in z)
  have hN : HT D dA (WT ad o σ H.size) ad' o σ' v H1 := HT_back hR hw hB hk
  obtain ⟨b1, b2⟩ := two_call h.hM h.hJ hN (fun q z => z) (fun q z1 z2 => hk q z1 (fun z => z2 (hw q z)))
  exact ⟨WW_weaken hN (WW_wa (newA_in s) h.hT h.hS), b1, b2, hL, h0, h.m0, hS1⟩
theorem kLC {r : Int32} (hg : sameN σ' σ) (hr : va_Run p l e R s m args below meth c H locs cells slots 0 0 (F0 m pc ls st0) rest (va_Qi (fun (z : Int32) (_ : Unit) => z = r) (fun _ t => HC D dA (WA ad (cvC σ) H.size) ad σ' t.heap) (WA ad (cvC σ) H.size) a) (WA ad (cvC σ) H.size)) (h : LGS D dA s x (ad 0 0) am o σ τ v ad adm H locs)
    (kk : ∀ (H1 : Heap) (locs1 : List Loc), LGS D dA s x (ad 0 0) am o σ' τ v ad adm H1 locs1 → W p l e R s m args below meth c H1 locs1 cells slots Q (F0 m (pc + 3) ls (.int r :: rest))) : W p l e R s m args below meth c H locs cells slots Q (F0 m pc ls st0) :=
  va_calli hr h.hS (fun q _ z => WW_wa (newA_in s) (HT_C h.hT) h.hS q z) (WW_wa (newA_in s) (HT_C h.hT) h.hS) (fun r w t H1 locs1 ht hvm hw hB hz hk hS1 => by
    subst hw
    have hB : HC D dA (WA ad (cvC σ) H.size) ad σ' t.heap := hB
    rw [ht] at hB
    exact kk H1 locs1 (LGS_back (B := fun _ => True) h hB (LX_same h.hL hg) rfl hk hS1))
theorem preLH_of (hK : LK D dA s x mi) (h : LGS D dA s x (ad 0 0) am o σ τ v ad adm H locs) (As : List Value) : PreV s H RX5 (ad 0 0) (va_Pc (.ref (ad 0 0) :: As) (PreA D dA ad σ x mi H.size)) As :=
  preVT_of (newA_in s) h.hT h.hS hK.1 hK.2.1 h.hL As
theorem kLH {r : Int32} (hX : 0 ∉ X) (hr : va_Run p l e R s m args below meth c H locs cells slots mc ms (F0 m pc ls st0) rest (va_Qi (fun (z : Int32) (ad' : Nat → Nat → Nat) => z = r ∧ KA X ad ad' σ σ' ∧ LX ad' σ' x) (fun ad' t => HC D dA (WA ad (cvC σ) H.size) ad' σ' t.heap) (WA ad (cvC σ) H.size) a) (WA ad (cvC σ) H.size)) (h : LGS D dA s x (ad 0 0) am o σ τ v ad adm H locs)
    (kk : ∀ (ad' : Nat → Nat → Nat) (H1 : Heap) (locs1 : List Loc), LGS D dA s x (ad 0 0) am o σ' τ v ad' adm H1 locs1 → W p l e R s m args below meth c H1 locs1 (cells + mc) (slots + ms) Q (F0 m (pc + 3) ls (.int r :: rest))) : W p l e R s m args below meth c H locs cells slots Q (F0 m pc ls st0) :=
  va_calli hr h.hS (fun q _ z => WW_wa (newA_in s) (HT_C h.hT) h.hS q z) (WW_wa (newA_in s) (HT_C h.hT) h.hS) (fun r w t H1 locs1 ht hvm hw hB hz hk hS1 => by
    obtain ⟨rfl, e1, e2⟩ := hw
    have hB : HC D dA (WA ad (cvC σ) H.size) w σ' t.heap := hB
    rw [ht] at hB
    exact kk w H1 locs1 (LGS_back (B := fun _ => True) h hB e2 (e1 0 0 rfl hX).1 hk hS1))
/-- the row's only value -/
theorem lg_row {a0 : Nat} (hC : CTX p s m args meth c code 7 RL ret) (hK : LK D dA s x mi) (h : LGS D dA s x a0 am o σ τ v ad adm H locs) (hd : decode code pc = .ok (.laload, 1)) (kk : W p l e R s m args below meth c H locs cells slots Q (F0 m (pc + 1) ls (.long (v 0) :: rest))) : W p l e R s m args below meth c H locs cells slots Q (F0 m pc ls (.int 0 :: .ref o :: rest)) :=
  va_lald hC.1 hC.2.1 hK.1.1 (WW_one h.hT (cvT_o σ)) 0 1 (n := 1) (f := v) rfl rfl (show ¬ ((0 : Int32) < 0 ∨ 1 ≤ (0 : Int32).toNatClampNeg) by decide) hd kk
/-- a number of the script -/
theorem lg_ld {b L n k : Nat} {xs : Nat → Int32} {ki : Int} (hC : CTX p s m args meth c code 7 RL ret) (hX : va_X b L xs s s.heap) (hb : b < s.heap.size) (hS : va_S (newA s) s.heap H locs) (h0 : ls[0]? = some (.val (.ref b))) (h4 : ls[4]? = some (.val (.int (nI (6 * n))))) (hn : 6 * n + 6 ≤ L) (hL : L ≤ 3072) (hk : k < 6) (hki : Int32.ofInt ki = nI k) (d1 : decode code pc = .ok (.aload_n 0, 1)) (d2 : decode code (pc + 1) = .ok (.iload 4, 2)) (d3 : decode code (pc + 3) = .ok (.iconst ki, 1)) (d4 : decode code (pc + 4) = .ok (.iadd, 1)) (d5 : decode code (pc + 5) = .ok (.iaload, 1))
    (kk : W p l e R s m args below meth c H locs cells slots Q (F0 m (pc + 6) ls (.int (xs (6 * n + k)) :: rest))) : W p l e R s m args below meth c H locs cells slots Q (F0 m pc ls rest) := by
  refine lv_aload_n hC.1 hC.2.1 d1 rfl h0 ?_
  refine lv_iload hC.1 hC.2.1 d2 h4 ?_
  refine lv_iconst hC.1 hC.2.1 d3 hki ?_
  refine lv_iadd hC.1 hC.2.1 d4 ?_
  have e : nI (6 * n) + nI k = nI (6 * n + k) := by
    unfold nI
    exact (Int32.ofNat_add _ _).symm
  rw [e]
  refine va_sld hC.1 hC.2.1 hX hb (fun z => absurd z (by show ¬ s.heap.size ≤ b; omega)) hS (vin_nI (show 6 * n + k < L by omega) (by omega)) d5 ?_
  rw [clamp_nI (by omega)]
  exact kk
def bl (x : Int32) : Int32 := if x = 0 then 0 else 1
theorem bl_bz (x : Int32) : bz (bl x) := by
  unfold bl
  split
  · exact Or.inl rfl
  · exact Or.inr rfl
theorem lg_bool {y : Int32} (hC : CTX p s m args meth c code 7 RL ret) (d1 : decode code pc = .ok (.ifCond .eq 7, 3)) (d2 : decode code (pc + 3) = .ok (.iconst 1, 1)) (d3 : decode code (pc + 4) = .ok (.goto 4, 3)) (d4 : decode code (pc + 7) = .ok (.iconst 0, 1)) (kk : W p l e R s m args below meth c H locs cells slots Q (F0 m (pc + 8) ls (.int (bl y) :: rest))) : W p l e R s m args below meth c H locs cells slots Q (F0 m pc ls (.int y :: rest)) := by
  refine lv_if_eq (tgt := pc + 7) hC.1 hC.2.1 d1 (by omega) (fun q => ?_) (fun q => ?_)
  · refine lv_iconst (v := 0) hC.1 hC.2.1 d4 (by decide) ?_
    rw [show bl y = 0 from if_pos q] at kk
    exact kk
  · refine lv_iconst (v := 1) hC.1 hC.2.1 d2 (by decide) ?_
    refine lv_goto (tgt := pc + 8) hC.1 hC.2.1 d3 (by omega) ?_
    rw [show bl y = 1 from if_neg q] at kk
    exact kk
def bll (x : Int32) : Int64 := if x = 0 then 0 else 1
theorem lg_booll {y : Int32} (hC : CTX p s m args meth c code 7 RL ret) (d1 : decode code pc = .ok (.ifCond .eq 7, 3)) (d2 : decode code (pc + 3) = .ok (.lconst 1, 1)) (d3 : decode code (pc + 4) = .ok (.goto 4, 3)) (d4 : decode code (pc + 7) = .ok (.lconst 0, 1)) (kk : W p l e R s m args below meth c H locs cells slots Q (F0 m (pc + 8) ls (.long (bll y) :: rest))) : W p l e R s m args below meth c H locs cells slots Q (F0 m pc ls (.int y :: rest)) := by
  refine lv_if_eq (tgt := pc + 7) hC.1 hC.2.1 d1 (by omega) (fun q => ?_) (fun q => ?_)
  · refine lv_lconst (v := 0) hC.1 hC.2.1 d4 (by decide) ?_
    rw [show bll y = 0 from if_pos q] at kk
    exact kk
  · refine lv_lconst (v := 1) hC.1 hC.2.1 d2 (by decide) ?_
    refine lv_goto (tgt := pc + 8) hC.1 hC.2.1 d3 (by omega) ?_
    rw [show bll y = 1 from if_neg q] at kk
    exact kk
end LAWH
/-- where the loop stands after n calls -/
def LGP (D : va_G) (dA : Nat → ClassId) (s : State) (x a am o n : Nat) (H : Heap) (locs : List Loc) (cells slots : Nat) : Prop := ∃ ad σ v adm τ, LGS D dA s x a am o σ τ v ad adm H locs ∧ INV n σ τ ∧ cells ≤ 80 + pot σ + 100 * n ∧ slots ≤ 1000 + pot σ + 100 * n
theorem pot_le {n : Nat} {σ τ : St} (h : INV n σ τ) (hn : n ≤ 512) : pot σ ≤ 250000 := by
  have hG := h.1
  obtain ⟨h1, h2, h3, h4, h5, h6, h7, h8⟩ := G_IN hG
  have h9 := (G_BO hG).2.1
  have h10 := hG.2.2.2
  have h11 := (op_b τ).1
  unfold pot
  omega
