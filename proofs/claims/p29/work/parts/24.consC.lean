
def kf : List ((Nat × Nat) × (Nat × Nat)) → Nat → Nat → Option (Nat × Nat)
  | [], _, _ => none
  | x :: r, f, i => if f = x.1.1 ∧ i = x.1.2 then some x.2 else kf r f i
theorem kf_in : ∀ {K : List ((Nat × Nat) × (Nat × Nat))} {f i : Nat} {t : Nat × Nat}, kf K f i = some t → ((f, i), t) ∈ K
  | [], _, _, _, h => nomatch h
  | x :: r, f, i, t, h => by
    unfold kf at h
    split at h
    · rename_i h1
      cases h
      obtain ⟨rfl, rfl⟩ := h1
      exact List.mem_cons_self
    · exact List.mem_cons_of_mem _ (kf_in h)
theorem kf_no : ∀ {K : List ((Nat × Nat) × (Nat × Nat))} {f i : Nat}, kf K f i = none → (f, i) ∉ K.map Prod.fst
  | [], _, _, _ => by simp
  | x :: r, f, i, h => by
    unfold kf at h
    split at h
    · cases h
    · rename_i h1
      intro h2
      rcases List.mem_cons.mp h2 with h3 | h3
      · exact h1 ⟨congrArg Prod.fst h3, congrArg Prod.snd h3⟩
      · exact kf_no h h3
def adK (K : List ((Nat × Nat) × (Nat × Nat))) (adB ad : Nat → Nat → Nat) : Nat → Nat → Nat := fun f i => match kf K f i with
  | some t => adB t.1 t.2
  | none => ad f i
def ctK (K : List ((Nat × Nat) × (Nat × Nat))) (ctB ct : Nat → Nat → va_E) : Nat → Nat → va_E := fun f i => match kf K f i with
  | some t => ctB t.1 t.2
  | none => ct f i
theorem WW_addcall {D : va_G} {A0 A2 : Nat → Prop} {ad adB : Nat → Nat → Nat} {L LB L' : List (Nat × Nat)} {ct ctB : Nat → Nat → va_E} {H H1 : Heap} (K : List ((Nat × Nat) × (Nat × Nat))) (hR : WW D vwCl A0 ad (cvL L) ct H) (hA : ∀ q, A2 q → A0 q) (hB : WW D vwCl A2 adB (cvL LB) ctB H1) (hk : ∀ q : Nat, q < H.size → ¬ A2 q → H1[q]? = H[q]?)
    (ha : ∀ f i, (f, i) ∈ L → kf K f i = none → ¬ A2 (ad f i)) (hKB : ∀ x ∈ K, x.2 ∈ LB) (hKj : ∀ x ∈ K, ∀ y ∈ K, x.2 = y.2 → x.1 = y.1) (hL : ∀ x ∈ L', x ∈ K.map Prod.fst ∨ x ∈ L) : WW D vwCl A0 (adK K adB ad) (cvL L') (ctK K ctB ct) H1 := by
  have key : ∀ g j, cvL L' g j → (kf K g j = none ∧ (g, j) ∈ L) ∨ ∃ t, kf K g j = some t := fun g j q => by
    cases h : kf K g j with
    | some t => exact Or.inr ⟨t, rfl⟩
    | none => exact Or.inl ⟨rfl, (hL _ q).resolve_left (kf_no h)⟩
  refine WW_merge hR hA hB hk (fun g j q => ?_) (fun f i g j q1 q2 e => ?_)
  · rcases key g j q with ⟨h, hm⟩ | ⟨t, h⟩
    · refine Or.inl ⟨hm, ?_, ?_, ha g j hm h⟩
      · unfold adK; rw [h]
      · unfold ctK; rw [h]
    · refine Or.inr ⟨t.1, t.2, hKB _ (kf_in h), ?_, ?_⟩
      · unfold adK; rw [h]
      · unfold ctK; rw [h]
  · unfold adK at e
    rcases key f i q1 with ⟨h1, m1⟩ | ⟨t1, h1⟩ <;> rcases key g j q2 with ⟨h2, m2⟩ | ⟨t2, h2⟩ <;> rw [h1, h2] at e <;> dsimp only at e
    · exact hR.2 f i g j m1 m2 e
    · exact absurd (e ▸ WW_A hB (hKB _ (kf_in h2))) (ha f i m1 h1)
    · exact absurd (e.symm ▸ WW_A hB (hKB _ (kf_in h1))) (ha g j m2 h2)
    · have h3 := hB.2 _ _ _ _ (hKB _ (kf_in h1)) (hKB _ (kf_in h2)) e
      have h4 := hKj _ (kf_in h1) _ (kf_in h2) (Prod.ext h3.1 h3.2)
      exact Prod.mk.inj h4
theorem same_asg (vm : Vm) (k : ClassId) : vm.assignable k k = true := by
  show vm.assignableAux _ k k = true
  unfold Vm.assignableAux
  simp
section CCR
variable {p : Program} {l : Launch} {e : Env} {R : Room} {s : State} {m : MethodId} {args : Array Value} {below : List Frame} {meth : Method} {c : Code} {H H0 : Heap} {locs : List Loc} {cells slots : Nat} {Q : State → Prop}
variable {cc : ByteArray} {pc nL : Nat} {own : String} {ls : Array Slot} {D : va_G} {dA : Nat → ClassId} {A0 : Nat → Prop} {ad : Nat → Nat → Nat} {L LB : List (Nat × Nat)} {ct : Nat → Nat → va_E} {rest st0 : List Value} {a mc ms : Nat} {arr : Array Value}
theorem new_apart (hR : WW D vwCl A0 ad (cvL L) ct H) {f i : Nat} (hv : (f, i) ∈ L) (ha : ad f i = a) {K : List ((Nat × Nat) × (Nat × Nat))} (hKf : kf K f i ≠ none) : ∀ g j, (g, j) ∈ L → kf K g j = none → ¬ A1 a H.size (ad g j) := fun g j hm hn hq => by
  rcases hq with hq | hq
  · obtain ⟨rfl, rfl⟩ := hR.2 g j f i hm hv (hq.trans ha.symm)
    exact hKf hn
  · exact absurd (WW_lt hR hm) (Nat.not_lt.mpr hq)
theorem kcN {f i : Nat} {ctN : (Nat → Nat → Nat) → Nat → Nat → va_E} (K : List ((Nat × Nat) × (Nat × Nat))) (L' : List (Nat × Nat)) (hr : va_Run p l e R s m args below meth c H locs cells slots mc ms (F0 m pc ls st0) rest (va_Qv (fun (u : Nat → Nat → Nat) => u 0 0 = a) (fun u t => WW D vwCl (A1 a H.size) u (cvL LB) (ctN u) t.heap) (A1 a H.size) arr) (A1 a H.size)) (hR : WW D vwCl A0 ad (cvL L) ct H) (hA : ∀ q, H0.size ≤ q → A0 q) (hS : va_S A0 H0 H locs)
    (hv : (f, i) ∈ L) (ha : ad f i = a) (hKf : kf K f i ≠ none) (hKB : ∀ x ∈ K, x.2 ∈ LB) (hKj : ∀ x ∈ K, ∀ y ∈ K, x.2 = y.2 → x.1 = y.1) (hL : ∀ x ∈ L', x ∈ K.map Prod.fst ∨ x ∈ L)
    (kk : ∀ (u : Nat → Nat → Nat) (H1 : Heap) (locs1 : List Loc), u 0 0 = a → WW D vwCl A0 (adK K u ad) (cvL L') (ctK K (ctN u) ct) H1 → va_S A0 H0 H1 locs1 → W p l e R s m args below meth c H1 locs1 (cells + mc) (slots + ms) Q (F0 m (pc + 3) ls rest)) : W p l e R s m args below meth c H locs cells slots Q (F0 m pc ls st0) := by
  have hf : ∀ q, A1 a H.size q → A0 q := fun q h => by
    rcases h with rfl | h
    · exact ha ▸ WW_A hR hv
    · exact hA q (Nat.le_trans hS.1 h)
  refine va_callv hr hS (fun q _ h => hf q h) hf (fun u t H1 locs1 ht hvm hw hB hz hk hS1 => ?_)
  rw [ht] at hB
  exact kk u H1 locs1 hw (WW_addcall K hR hf hB hk (new_apart hR hv ha hKf) hKB hKj hL) hS1
theorem kcL {f i : Nat} {en : va_E} (hr : va_Run p l e R s m args below meth c H locs cells slots 0 0 (F0 m pc ls st0) rest (Q1 D a en H.size arr) (A1 a H.size)) (hR : WW D vwCl A0 ad (cvL L) ct H) (hA : ∀ q, H0.size ≤ q → A0 q) (hS : va_S A0 H0 H locs) (hv : (f, i) ∈ L) (ha : ad f i = a)
    (kk : ∀ (H1 : Heap) (locs1 : List Loc), WW D vwCl A0 (adK [((f, i), (0, 0))] (fun _ _ => a) ad) (cvL L) (ctK [((f, i), (0, 0))] (fun _ _ => en) ct) H1 → va_S A0 H0 H1 locs1 → W p l e R s m args below meth c H1 locs1 cells slots Q (F0 m (pc + 3) ls rest)) : W p l e R s m args below meth c H locs cells slots Q (F0 m pc ls st0) := by
  have hf : ∀ q, A1 a H.size q → A0 q := fun q h => by
    rcases h with rfl | h
    · exact ha ▸ WW_A hR hv
    · exact hA q (Nat.le_trans hS.1 h)
  refine va_callv hr hS (fun q _ h => hf q h) hf (fun u t H1 locs1 ht hvm hw hB hz hk hS1 => ?_)
  rw [ht] at hB
  exact kk H1 locs1 (WW_addcall _ hR hf hB hk (new_apart hR hv ha (by simp [kf])) (by simp) (by simp) (fun x hx => Or.inr hx)) hS1
theorem self_any {f i ci N : Nat} {C : String} {T : u_T} {fs : List Value} {cv : Nat → Nat → Prop} (hK : KS D dA s) (hR : WW D vwCl A0 ad cv ct H) (hv : cv f i) (he : ct f i = .inr (ci, fs)) (hc : vwCl[ci]? = some (C, T, N)) : va_Any C s H (ad f i) :=
  va_rAny hK.1 (WW_one hR hv) (q0 := 0) (by rw [he]; rfl) hc (fun comp c0 h1 h2 => by
    cases h1.symm.trans h2
    exact same_asg s.vm comp)
end CCR

