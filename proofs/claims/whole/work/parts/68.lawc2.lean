/-! THE LAW, call by call (laid by wip/gen/lawc.py) -/
theorem law_852 {p : Program} {l : Launch} {e : Env} {s : State} {m : MethodId} {args : Array Value} {below : List Frame} {meth : Method} {c : Code} {H : Heap} {locs : List Loc} {cells slots : Nat} {Q : State → Prop} {ls : Array Slot} {D : va_G} {dA : Nat → ClassId} {x mi n b a am o L : Nat} {xs : Nat → Int32} (hst : l.stackTraces = false) (hC : CTX p s m args meth c code 7 RL ret) (hK : LK D dA s x mi) (hX : va_X b L xs s s.heap) (hbl : b < s.heap.size) (hL : L ≤ 3072) (hn : 6 * n + 6 ≤ L) (hP : LGP D dA s x a am o n H locs cells slots) (hl : lv_has ls 7 (lvL n b a am o)) (kk : ∀ (H1 : Heap) (locs1 : List Loc) (c1 s1 : Nat) (ls1 : Array Slot), LGP D dA s x a am o (n + 1) H1 locs1 c1 s1 → lv_has ls1 7 (lvL n b a am o) → W p l e room_1 s m args below meth c H1 locs1 c1 s1 Q (F0 m 1679 ls1 [])) : W p l e room_1 s m args below meth c H locs cells slots Q (F0 m 852 ls []) := by
  obtain ⟨ad, σ, v, adm, τ, hS, hI, hc1, hc2⟩ := hP
  have e1 := hS.h0
  have e2 := hS.m0
  subst e1
  subst e2
  obtain ⟨hx, hb, hml, hown, hts, hr, hlk⟩ := id hC
  obtain ⟨u, mc, ms, r, τ', f1, f2, hO⟩ := c_left hI (xs (6 * n + 1))
  have hrm := OK_room hO (show n < 512 by omega) hc1 hc2
  refine lv_aload_n hx hb d_law_852 rfl (lv_at hl 2 rfl) ?_
  refine lg_ld (k := 1) hC hX hbl hS.hS (lv_at hl 1 rfl) (lv_at hl 0 rfl) hn hL (by decide) (by decide) d_law_853 d_law_854 d_law_856 d_law_857 d_law_858 ?_
  refine lv_aload_n hx hb d_law_859 rfl (lv_at hl 4 rfl) ?_
  refine kLT (vx_runSW (As := [.ref (ad 0 0), .int (xs (6 * n + 1)), .ref o]) (rest := []) ⟨hx, hb, hml, hown, hts⟩ (mL_left l hst D dA ad o σ v _ x mi (xs (6 * n + 1)) u mc ms f1 (OK_P hO)) (vx_cwSW 3 hts gW_131 rfl rfl rfl (by decide +kernel) ⟨Nat.le_of_ble_eq_true rfl, Nat.le_of_ble_eq_true rfl⟩) (preLT_of hK hS _) rfl rfl hl.1 rfl (lv_room (Nat.le_of_ble_eq_true rfl)) d_law_860 hrm) (by decide) hS (fun z σ' v' ad' H locs hXT hS => ?_)
  refine lv_istore (i := 5) (lv' := (5, .int z) :: lvL n b (ad 0 0) (adm 0 0) o) hx hb d_law_863 hl (by decide) rfl (fun ls hl => ?_)
  refine lv_aload_n hx hb d_law_865 rfl (lv_at hl 4 rfl) ?_
  refine lg_ld (k := 1) hC hX hbl hS.hS (lv_at hl 2 rfl) (lv_at hl 1 rfl) hn hL (by decide) (by decide) d_law_866 d_law_867 d_law_869 d_law_870 d_law_871 ?_
  refine kLM (va_runV (As := [.int (xs (6 * n + 1))]) (rest := []) ⟨hx, hb, hml, hown, hts⟩ (mX6_left l D dA adm τ _ (xs (6 * n + 1)) r τ' f2) (cwV 1 hts gW_133 rfl rfl rfl (by decide +kernel) ⟨Nat.le_of_ble_eq_true rfl, Nat.le_of_ble_eq_true rfl⟩) (preLM_of hK hS _) rfl rfl hl.1 rfl (lv_room (Nat.le_of_ble_eq_true rfl)) d_law_872 hrm) hS (fun H locs hS => ?_)
  exact lgEnd hC hK (by omega) hO hXT hS hc1 hc2 hl d_law_875 d_law_877 d_law_878 d_law_881 d_law_883 d_law_888 d_law_890 d_law_893 d_law_894 d_law_895 d_law_896 d_law_898 d_law_899 d_law_900 d_law_905 (by decide) kk
theorem law_908 {p : Program} {l : Launch} {e : Env} {s : State} {m : MethodId} {args : Array Value} {below : List Frame} {meth : Method} {c : Code} {H : Heap} {locs : List Loc} {cells slots : Nat} {Q : State → Prop} {ls : Array Slot} {D : va_G} {dA : Nat → ClassId} {x mi n b a am o L : Nat} {xs : Nat → Int32} (hst : l.stackTraces = false) (hC : CTX p s m args meth c code 7 RL ret) (hK : LK D dA s x mi) (hX : va_X b L xs s s.heap) (hbl : b < s.heap.size) (hL : L ≤ 3072) (hn : 6 * n + 6 ≤ L) (hP : LGP D dA s x a am o n H locs cells slots) (hl : lv_has ls 7 (lvL n b a am o)) (kk : ∀ (H1 : Heap) (locs1 : List Loc) (c1 s1 : Nat) (ls1 : Array Slot), LGP D dA s x a am o (n + 1) H1 locs1 c1 s1 → lv_has ls1 7 (lvL n b a am o) → W p l e room_1 s m args below meth c H1 locs1 c1 s1 Q (F0 m 1679 ls1 [])) : W p l e room_1 s m args below meth c H locs cells slots Q (F0 m 908 ls []) := by
  obtain ⟨ad, σ, v, adm, τ, hS, hI, hc1, hc2⟩ := hP
  have e1 := hS.h0
  have e2 := hS.m0
  subst e1
  subst e2
  obtain ⟨hx, hb, hml, hown, hts, hr, hlk⟩ := id hC
  obtain ⟨u, mc, ms, r, τ', f1, f2, hO⟩ := c_best hI (xs (6 * n + 1)) (bl (xs (6 * n + 2)))
  have hrm := OK_room hO (show n < 512 by omega) hc1 hc2
  refine lv_aload_n hx hb d_law_908 rfl (lv_at hl 2 rfl) ?_
  refine lg_ld (k := 1) hC hX hbl hS.hS (lv_at hl 1 rfl) (lv_at hl 0 rfl) hn hL (by decide) (by decide) d_law_909 d_law_910 d_law_912 d_law_913 d_law_914 ?_
  refine lg_ld (k := 2) hC hX hbl hS.hS (lv_at hl 1 rfl) (lv_at hl 0 rfl) hn hL (by decide) (by decide) d_law_915 d_law_916 d_law_918 d_law_919 d_law_920 ?_
  refine lg_bool hC d_law_921 d_law_924 d_law_925 d_law_928 ?_
  refine lv_aload_n hx hb d_law_929 rfl (lv_at hl 4 rfl) ?_
  refine kLT (vx_runSW (As := [.ref (ad 0 0), .int (xs (6 * n + 1)), .int (bl (xs (6 * n + 2))), .ref o]) (rest := []) ⟨hx, hb, hml, hown, hts⟩ (mL_best l hst D dA ad o σ v _ x mi (xs (6 * n + 1)) (bl (xs (6 * n + 2))) u mc ms f1 (OK_P hO)) (vx_cwSW 4 hts gW_134 rfl rfl rfl (by decide +kernel) ⟨Nat.le_of_ble_eq_true rfl, Nat.le_of_ble_eq_true rfl⟩) (preLT_of hK hS _) rfl rfl hl.1 rfl (lv_room (Nat.le_of_ble_eq_true rfl)) d_law_930 hrm) (by decide) hS (fun z σ' v' ad' H locs hXT hS => ?_)
  refine lv_istore (i := 5) (lv' := (5, .int z) :: lvL n b (ad 0 0) (adm 0 0) o) hx hb d_law_933 hl (by decide) rfl (fun ls hl => ?_)
  refine lv_aload_n hx hb d_law_935 rfl (lv_at hl 4 rfl) ?_
  refine lg_ld (k := 1) hC hX hbl hS.hS (lv_at hl 2 rfl) (lv_at hl 1 rfl) hn hL (by decide) (by decide) d_law_936 d_law_937 d_law_939 d_law_940 d_law_941 ?_
  refine lg_ld (k := 2) hC hX hbl hS.hS (lv_at hl 2 rfl) (lv_at hl 1 rfl) hn hL (by decide) (by decide) d_law_942 d_law_943 d_law_945 d_law_946 d_law_947 ?_
  refine lg_bool hC d_law_948 d_law_951 d_law_952 d_law_955 ?_
  refine kLM (va_runV (As := [.int (xs (6 * n + 1)), .int (bl (xs (6 * n + 2)))]) (rest := []) ⟨hx, hb, hml, hown, hts⟩ (mX6_best l D dA adm τ _ (xs (6 * n + 1)) (bl (xs (6 * n + 2))) r τ' f2) (cwV 2 hts gW_136 rfl rfl rfl (by decide +kernel) ⟨Nat.le_of_ble_eq_true rfl, Nat.le_of_ble_eq_true rfl⟩) (preLM_of hK hS _) rfl rfl hl.1 rfl (lv_room (Nat.le_of_ble_eq_true rfl)) d_law_956 hrm) hS (fun H locs hS => ?_)
  exact lgEnd hC hK (by omega) hO hXT hS hc1 hc2 hl d_law_959 d_law_961 d_law_962 d_law_965 d_law_967 d_law_972 d_law_974 d_law_977 d_law_978 d_law_979 d_law_980 d_law_982 d_law_983 d_law_984 d_law_989 (by decide) kk
theorem law_992 {p : Program} {l : Launch} {e : Env} {s : State} {m : MethodId} {args : Array Value} {below : List Frame} {meth : Method} {c : Code} {H : Heap} {locs : List Loc} {cells slots : Nat} {Q : State → Prop} {ls : Array Slot} {D : va_G} {dA : Nat → ClassId} {x mi n b a am o L : Nat} {xs : Nat → Int32} (hst : l.stackTraces = false) (hC : CTX p s m args meth c code 7 RL ret) (hK : LK D dA s x mi) (hX : va_X b L xs s s.heap) (hbl : b < s.heap.size) (hL : L ≤ 3072) (hn : 6 * n + 6 ≤ L) (hP : LGP D dA s x a am o n H locs cells slots) (hl : lv_has ls 7 (lvL n b a am o)) (kk : ∀ (H1 : Heap) (locs1 : List Loc) (c1 s1 : Nat) (ls1 : Array Slot), LGP D dA s x a am o (n + 1) H1 locs1 c1 s1 → lv_has ls1 7 (lvL n b a am o) → W p l e room_1 s m args below meth c H1 locs1 c1 s1 Q (F0 m 1679 ls1 [])) : W p l e room_1 s m args below meth c H locs cells slots Q (F0 m 992 ls []) := by
  obtain ⟨ad, σ, v, adm, τ, hS, hI, hc1, hc2⟩ := hP
  have e1 := hS.h0
  have e2 := hS.m0
  subst e1
  subst e2
  obtain ⟨hx, hb, hml, hown, hts, hr, hlk⟩ := id hC
  obtain ⟨r, τ', f1, f2, hI'⟩ := c_trades hI
  have hpl := pot_le hI' (by omega)
  have hpl0 := pot_le hI (by omega)
  refine lv_aload_n hx hb d_law_992 rfl (lv_at hl 2 rfl) ?_
  refine kLC ⟨rfl, rfl, rfl, rfl, rfl, rfl, rfl⟩ (va_runV (As := []) (rest := []) ⟨hx, hb, hml, hown, hts⟩ (mX5_trades l D dA ad σ _ r f1) (cwV 0 hts gW_137 rfl rfl rfl (by decide +kernel) ⟨Nat.le_of_ble_eq_true rfl, Nat.le_of_ble_eq_true rfl⟩) (preLC_of hK hS _) rfl rfl hl.1 rfl (lv_room (Nat.le_of_ble_eq_true rfl)) d_law_993 (show cells + 0 ≤ 601024 ∧ slots + 0 ≤ 7293034 from ⟨by omega, by omega⟩)) hS (fun H locs hS => ?_)
  refine lv_aload_n hx hb d_law_996 rfl (lv_at hl 3 rfl) ?_
  refine kLM (va_runV (As := []) (rest := [.int r]) ⟨hx, hb, hml, hown, hts⟩ (mX6_trades l D dA adm τ _ r τ' f2) (cwV 0 hts gW_140 rfl rfl rfl (by decide +kernel) ⟨Nat.le_of_ble_eq_true rfl, Nat.le_of_ble_eq_true rfl⟩) (preLM_of hK hS _) rfl rfl hl.1 rfl (lv_room (Nat.le_of_ble_eq_true rfl)) d_law_997 (show cells + 0 ≤ 601024 ∧ slots + 0 ≤ 7293034 from ⟨by omega, by omega⟩)) hS (fun H locs hS => ?_)
  refine lv_icmp_eq (tgt := 1679) hx hb d_law_1000 (by decide) (fun _ => ?_) (fun q => absurd rfl q)
  exact kk H locs _ _ ls ⟨ad, σ, v, adm, τ', hS, hI', by omega, by omega⟩ hl
theorem law_1005 {p : Program} {l : Launch} {e : Env} {s : State} {m : MethodId} {args : Array Value} {below : List Frame} {meth : Method} {c : Code} {H : Heap} {locs : List Loc} {cells slots : Nat} {Q : State → Prop} {ls : Array Slot} {D : va_G} {dA : Nat → ClassId} {x mi n b a am o L : Nat} {xs : Nat → Int32} (hst : l.stackTraces = false) (hC : CTX p s m args meth c code 7 RL ret) (hK : LK D dA s x mi) (hX : va_X b L xs s s.heap) (hbl : b < s.heap.size) (hL : L ≤ 3072) (hn : 6 * n + 6 ≤ L) (hP : LGP D dA s x a am o n H locs cells slots) (hl : lv_has ls 7 (lvL n b a am o)) (kk : ∀ (H1 : Heap) (locs1 : List Loc) (c1 s1 : Nat) (ls1 : Array Slot), LGP D dA s x a am o (n + 1) H1 locs1 c1 s1 → lv_has ls1 7 (lvL n b a am o) → W p l e room_1 s m args below meth c H1 locs1 c1 s1 Q (F0 m 1679 ls1 [])) : W p l e room_1 s m args below meth c H locs cells slots Q (F0 m 1005 ls []) := by
  obtain ⟨ad, σ, v, adm, τ, hS, hI, hc1, hc2⟩ := hP
  have e1 := hS.h0
  have e2 := hS.m0
  subst e1
  subst e2
  obtain ⟨hx, hb, hml, hown, hts, hr, hlk⟩ := id hC
  obtain ⟨r, σ', τ', mc, ms, f1, f2, hI', hp, hp2⟩ := c_hour (by omega) hI
  have hpl := pot_le hI' (by omega)
  have hpl0 := pot_le hI (by omega)
  refine lv_aload_n hx hb d_law_1005 rfl (lv_at hl 2 rfl) ?_
  refine kLH (X := [15, 19]) (by decide) (va_runV (As := []) (rest := []) ⟨hx, hb, hml, hown, hts⟩ (mX5_hour l D dA ad σ _ x mi r σ' mc ms f1) (cwV 0 hts gW_141 rfl rfl rfl (by decide +kernel) ⟨Nat.le_of_ble_eq_true rfl, Nat.le_of_ble_eq_true rfl⟩) (preLH_of hK hS _) rfl rfl hl.1 rfl (lv_room (Nat.le_of_ble_eq_true rfl)) d_law_1006 (show cells + mc ≤ 601024 ∧ slots + ms ≤ 7293034 from ⟨by omega, by omega⟩)) hS (fun ad' H locs hS => ?_)
  refine lv_aload_n hx hb d_law_1009 rfl (lv_at hl 3 rfl) ?_
  refine kLM (va_runV (As := []) (rest := [.int r]) ⟨hx, hb, hml, hown, hts⟩ (mX6_hour l D dA adm τ _ r τ' f2) (cwV 0 hts gW_144 rfl rfl rfl (by decide +kernel) ⟨Nat.le_of_ble_eq_true rfl, Nat.le_of_ble_eq_true rfl⟩) (preLM_of hK hS _) rfl rfl hl.1 rfl (lv_room (Nat.le_of_ble_eq_true rfl)) d_law_1010 (show cells + mc ≤ 601024 ∧ slots + ms ≤ 7293034 from ⟨by omega, by omega⟩)) hS (fun H locs hS => ?_)
  refine lv_icmp_eq (tgt := 1679) hx hb d_law_1013 (by decide) (fun _ => ?_) (fun q => absurd rfl q)
  exact kk H locs _ _ ls ⟨ad', σ', v, adm, τ', hS, hI', by omega, by omega⟩ hl
theorem law_1018 {p : Program} {l : Launch} {e : Env} {s : State} {m : MethodId} {args : Array Value} {below : List Frame} {meth : Method} {c : Code} {H : Heap} {locs : List Loc} {cells slots : Nat} {Q : State → Prop} {ls : Array Slot} {D : va_G} {dA : Nat → ClassId} {x mi n b a am o L : Nat} {xs : Nat → Int32} (hst : l.stackTraces = false) (hC : CTX p s m args meth c code 7 RL ret) (hK : LK D dA s x mi) (hX : va_X b L xs s s.heap) (hbl : b < s.heap.size) (hL : L ≤ 3072) (hn : 6 * n + 6 ≤ L) (hP : LGP D dA s x a am o n H locs cells slots) (hl : lv_has ls 7 (lvL n b a am o)) (kk : ∀ (H1 : Heap) (locs1 : List Loc) (c1 s1 : Nat) (ls1 : Array Slot), LGP D dA s x a am o (n + 1) H1 locs1 c1 s1 → lv_has ls1 7 (lvL n b a am o) → W p l e room_1 s m args below meth c H1 locs1 c1 s1 Q (F0 m 1679 ls1 [])) : W p l e room_1 s m args below meth c H locs cells slots Q (F0 m 1018 ls []) := by
  obtain ⟨ad, σ, v, adm, τ, hS, hI, hc1, hc2⟩ := hP
  have e1 := hS.h0
  have e2 := hS.m0
  subst e1
  subst e2
  obtain ⟨hx, hb, hml, hown, hts, hr, hlk⟩ := id hC
  obtain ⟨r, σ', τ', f1, f2, hI', hp, hsn⟩ := c_evening2 hI
  have hpl := pot_le hI' (by omega)
  have hpl0 := pot_le hI (by omega)
  refine lv_aload_n hx hb d_law_1018 rfl (lv_at hl 2 rfl) ?_
  refine kLC hsn (va_runV (As := []) (rest := []) ⟨hx, hb, hml, hown, hts⟩ (mX5_evening l D dA ad σ _ r σ' f1) (cwV 0 hts gW_145 rfl rfl rfl (by decide +kernel) ⟨Nat.le_of_ble_eq_true rfl, Nat.le_of_ble_eq_true rfl⟩) (preLC_of hK hS _) rfl rfl hl.1 rfl (lv_room (Nat.le_of_ble_eq_true rfl)) d_law_1019 (show cells + 0 ≤ 601024 ∧ slots + 0 ≤ 7293034 from ⟨by omega, by omega⟩)) hS (fun H locs hS => ?_)
  refine lv_aload_n hx hb d_law_1022 rfl (lv_at hl 3 rfl) ?_
  refine kLM (va_runV (As := []) (rest := [.int r]) ⟨hx, hb, hml, hown, hts⟩ (mX6_evening l D dA adm τ _ r τ' f2) (cwV 0 hts gW_148 rfl rfl rfl (by decide +kernel) ⟨Nat.le_of_ble_eq_true rfl, Nat.le_of_ble_eq_true rfl⟩) (preLM_of hK hS _) rfl rfl hl.1 rfl (lv_room (Nat.le_of_ble_eq_true rfl)) d_law_1023 (show cells + 0 ≤ 601024 ∧ slots + 0 ≤ 7293034 from ⟨by omega, by omega⟩)) hS (fun H locs hS => ?_)
  refine lv_icmp_eq (tgt := 1679) hx hb d_law_1026 (by decide) (fun _ => ?_) (fun q => absurd rfl q)
  exact kk H locs _ _ ls ⟨ad, σ', v, adm, τ', hS, hI', by omega, by omega⟩ hl
theorem law_1031 {p : Program} {l : Launch} {e : Env} {s : State} {m : MethodId} {args : Array Value} {below : List Frame} {meth : Method} {c : Code} {H : Heap} {locs : List Loc} {cells slots : Nat} {Q : State → Prop} {ls : Array Slot} {D : va_G} {dA : Nat → ClassId} {x mi n b a am o L : Nat} {xs : Nat → Int32} (hst : l.stackTraces = false) (hC : CTX p s m args meth c code 7 RL ret) (hK : LK D dA s x mi) (hX : va_X b L xs s s.heap) (hbl : b < s.heap.size) (hL : L ≤ 3072) (hn : 6 * n + 6 ≤ L) (hP : LGP D dA s x a am o n H locs cells slots) (hl : lv_has ls 7 (lvL n b a am o)) (kk : ∀ (H1 : Heap) (locs1 : List Loc) (c1 s1 : Nat) (ls1 : Array Slot), LGP D dA s x a am o (n + 1) H1 locs1 c1 s1 → lv_has ls1 7 (lvL n b a am o) → W p l e room_1 s m args below meth c H1 locs1 c1 s1 Q (F0 m 1679 ls1 [])) : W p l e room_1 s m args below meth c H locs cells slots Q (F0 m 1031 ls []) := by
  obtain ⟨ad, σ, v, adm, τ, hS, hI, hc1, hc2⟩ := hP
  have e1 := hS.h0
  have e2 := hS.m0
  subst e1
  subst e2
  obtain ⟨hx, hb, hml, hown, hts, hr, hlk⟩ := id hC
  obtain ⟨u, mc, ms, r, τ', f1, f2, hO⟩ := c_called hI (xs (6 * n + 1))
  have hrm := OK_room hO (show n < 512 by omega) hc1 hc2
  refine lv_aload_n hx hb d_law_1031 rfl (lv_at hl 2 rfl) ?_
  refine lg_ld (k := 1) hC hX hbl hS.hS (lv_at hl 1 rfl) (lv_at hl 0 rfl) hn hL (by decide) (by decide) d_law_1032 d_law_1033 d_law_1035 d_law_1036 d_law_1037 ?_
  refine lv_aload_n hx hb d_law_1038 rfl (lv_at hl 4 rfl) ?_
  refine kLT (vx_runSW (As := [.ref (ad 0 0), .int (xs (6 * n + 1)), .ref o]) (rest := []) ⟨hx, hb, hml, hown, hts⟩ (mL_called l hst D dA ad o σ v _ x mi (xs (6 * n + 1)) u mc ms f1 (OK_P hO)) (vx_cwSW 3 hts gW_149 rfl rfl rfl (by decide +kernel) ⟨Nat.le_of_ble_eq_true rfl, Nat.le_of_ble_eq_true rfl⟩) (preLT_of hK hS _) rfl rfl hl.1 rfl (lv_room (Nat.le_of_ble_eq_true rfl)) d_law_1039 hrm) (by decide) hS (fun z σ' v' ad' H locs hXT hS => ?_)
  refine lv_istore (i := 5) (lv' := (5, .int z) :: lvL n b (ad 0 0) (adm 0 0) o) hx hb d_law_1042 hl (by decide) rfl (fun ls hl => ?_)
  refine lv_aload_n hx hb d_law_1044 rfl (lv_at hl 4 rfl) ?_
  refine lg_ld (k := 1) hC hX hbl hS.hS (lv_at hl 2 rfl) (lv_at hl 1 rfl) hn hL (by decide) (by decide) d_law_1045 d_law_1046 d_law_1048 d_law_1049 d_law_1050 ?_
  refine kLM (va_runV (As := [.int (xs (6 * n + 1))]) (rest := []) ⟨hx, hb, hml, hown, hts⟩ (mX6_called l D dA adm τ _ (xs (6 * n + 1)) r τ' f2) (cwV 1 hts gW_151 rfl rfl rfl (by decide +kernel) ⟨Nat.le_of_ble_eq_true rfl, Nat.le_of_ble_eq_true rfl⟩) (preLM_of hK hS _) rfl rfl hl.1 rfl (lv_room (Nat.le_of_ble_eq_true rfl)) d_law_1051 hrm) hS (fun H locs hS => ?_)
  exact lgEnd hC hK (by omega) hO hXT hS hc1 hc2 hl d_law_1054 d_law_1056 d_law_1057 d_law_1060 d_law_1062 d_law_1067 d_law_1069 d_law_1072 d_law_1073 d_law_1074 d_law_1075 d_law_1077 d_law_1078 d_law_1079 d_law_1084 (by decide) kk
theorem law_1087 {p : Program} {l : Launch} {e : Env} {s : State} {m : MethodId} {args : Array Value} {below : List Frame} {meth : Method} {c : Code} {H : Heap} {locs : List Loc} {cells slots : Nat} {Q : State → Prop} {ls : Array Slot} {D : va_G} {dA : Nat → ClassId} {x mi n b a am o L : Nat} {xs : Nat → Int32} (hst : l.stackTraces = false) (hC : CTX p s m args meth c code 7 RL ret) (hK : LK D dA s x mi) (hX : va_X b L xs s s.heap) (hbl : b < s.heap.size) (hL : L ≤ 3072) (hn : 6 * n + 6 ≤ L) (hP : LGP D dA s x a am o n H locs cells slots) (hl : lv_has ls 7 (lvL n b a am o)) (kk : ∀ (H1 : Heap) (locs1 : List Loc) (c1 s1 : Nat) (ls1 : Array Slot), LGP D dA s x a am o (n + 1) H1 locs1 c1 s1 → lv_has ls1 7 (lvL n b a am o) → W p l e room_1 s m args below meth c H1 locs1 c1 s1 Q (F0 m 1679 ls1 [])) : W p l e room_1 s m args below meth c H locs cells slots Q (F0 m 1087 ls []) := by
  obtain ⟨ad, σ, v, adm, τ, hS, hI, hc1, hc2⟩ := hP
  have e1 := hS.h0
  have e2 := hS.m0
  subst e1
  subst e2
  obtain ⟨hx, hb, hml, hown, hts, hr, hlk⟩ := id hC
  obtain ⟨u, mc, ms, r, τ', f1, f2, hO⟩ := c_hasFailed hI (xs (6 * n + 1))
  have hrm := OK_room hO (show n < 512 by omega) hc1 hc2
  refine lv_aload_n hx hb d_law_1087 rfl (lv_at hl 2 rfl) ?_
  refine lg_ld (k := 1) hC hX hbl hS.hS (lv_at hl 1 rfl) (lv_at hl 0 rfl) hn hL (by decide) (by decide) d_law_1088 d_law_1089 d_law_1091 d_law_1092 d_law_1093 ?_
  refine lv_aload_n hx hb d_law_1094 rfl (lv_at hl 4 rfl) ?_
  refine kLT (vx_runSW (As := [.ref (ad 0 0), .int (xs (6 * n + 1)), .ref o]) (rest := []) ⟨hx, hb, hml, hown, hts⟩ (mL_hasFailed l hst D dA ad o σ v _ x mi (xs (6 * n + 1)) u mc ms f1 (OK_P hO)) (vx_cwSW 3 hts gW_152 rfl rfl rfl (by decide +kernel) ⟨Nat.le_of_ble_eq_true rfl, Nat.le_of_ble_eq_true rfl⟩) (preLT_of hK hS _) rfl rfl hl.1 rfl (lv_room (Nat.le_of_ble_eq_true rfl)) d_law_1095 hrm) (by decide) hS (fun z σ' v' ad' H locs hXT hS => ?_)
  refine lv_istore (i := 5) (lv' := (5, .int z) :: lvL n b (ad 0 0) (adm 0 0) o) hx hb d_law_1098 hl (by decide) rfl (fun ls hl => ?_)
  refine lv_aload_n hx hb d_law_1100 rfl (lv_at hl 4 rfl) ?_
  refine lg_ld (k := 1) hC hX hbl hS.hS (lv_at hl 2 rfl) (lv_at hl 1 rfl) hn hL (by decide) (by decide) d_law_1101 d_law_1102 d_law_1104 d_law_1105 d_law_1106 ?_
  refine kLM (va_runV (As := [.int (xs (6 * n + 1))]) (rest := []) ⟨hx, hb, hml, hown, hts⟩ (mX6_hasFailed l D dA adm τ _ (xs (6 * n + 1)) r τ' f2) (cwV 1 hts gW_154 rfl rfl rfl (by decide +kernel) ⟨Nat.le_of_ble_eq_true rfl, Nat.le_of_ble_eq_true rfl⟩) (preLM_of hK hS _) rfl rfl hl.1 rfl (lv_room (Nat.le_of_ble_eq_true rfl)) d_law_1107 hrm) hS (fun H locs hS => ?_)
  exact lgEndB hC hK (by omega) hO hXT hS hc1 hc2 hl d_law_1110 d_law_1112 d_law_1113 d_law_1116 d_law_1118 d_law_1123 d_law_1125 d_law_1128 d_law_1129 d_law_1130 d_law_1131 d_law_1133 d_law_1136 d_law_1137 d_law_1140 d_law_1141 d_law_1142 d_law_1147 (by decide) kk
theorem law_1150 {p : Program} {l : Launch} {e : Env} {s : State} {m : MethodId} {args : Array Value} {below : List Frame} {meth : Method} {c : Code} {H : Heap} {locs : List Loc} {cells slots : Nat} {Q : State → Prop} {ls : Array Slot} {D : va_G} {dA : Nat → ClassId} {x mi n b a am o L : Nat} {xs : Nat → Int32} (hst : l.stackTraces = false) (hC : CTX p s m args meth c code 7 RL ret) (hK : LK D dA s x mi) (hX : va_X b L xs s s.heap) (hbl : b < s.heap.size) (hL : L ≤ 3072) (hn : 6 * n + 6 ≤ L) (hP : LGP D dA s x a am o n H locs cells slots) (hl : lv_has ls 7 (lvL n b a am o)) (kk : ∀ (H1 : Heap) (locs1 : List Loc) (c1 s1 : Nat) (ls1 : Array Slot), LGP D dA s x a am o (n + 1) H1 locs1 c1 s1 → lv_has ls1 7 (lvL n b a am o) → W p l e room_1 s m args below meth c H1 locs1 c1 s1 Q (F0 m 1679 ls1 [])) : W p l e room_1 s m args below meth c H locs cells slots Q (F0 m 1150 ls []) := by
  obtain ⟨ad, σ, v, adm, τ, hS, hI, hc1, hc2⟩ := hP
  have e1 := hS.h0
  have e2 := hS.m0
  subst e1
  subst e2
  obtain ⟨hx, hb, hml, hown, hts, hr, hlk⟩ := id hC
  obtain ⟨u, mc, ms, r, τ', f1, f2, hO⟩ := c_position hI (xs (6 * n + 1)) (xs (6 * n + 2))
  have hrm := OK_room hO (show n < 512 by omega) hc1 hc2
  refine lv_aload_n hx hb d_law_1150 rfl (lv_at hl 2 rfl) ?_
  refine lg_ld (k := 1) hC hX hbl hS.hS (lv_at hl 1 rfl) (lv_at hl 0 rfl) hn hL (by decide) (by decide) d_law_1151 d_law_1152 d_law_1154 d_law_1155 d_law_1156 ?_
  refine lg_ld (k := 2) hC hX hbl hS.hS (lv_at hl 1 rfl) (lv_at hl 0 rfl) hn hL (by decide) (by decide) d_law_1157 d_law_1158 d_law_1160 d_law_1161 d_law_1162 ?_
  refine lv_aload_n hx hb d_law_1163 rfl (lv_at hl 4 rfl) ?_
  refine kLT (vx_runSW (As := [.ref (ad 0 0), .int (xs (6 * n + 1)), .int (xs (6 * n + 2)), .ref o]) (rest := []) ⟨hx, hb, hml, hown, hts⟩ (mL_position l hst D dA ad o σ v _ x mi (xs (6 * n + 1)) (xs (6 * n + 2)) u mc ms f1 (OK_P hO)) (vx_cwSW 4 hts gW_155 rfl rfl rfl (by decide +kernel) ⟨Nat.le_of_ble_eq_true rfl, Nat.le_of_ble_eq_true rfl⟩) (preLT_of hK hS _) rfl rfl hl.1 rfl (lv_room (Nat.le_of_ble_eq_true rfl)) d_law_1164 hrm) (by decide) hS (fun z σ' v' ad' H locs hXT hS => ?_)
  refine lv_istore (i := 5) (lv' := (5, .int z) :: lvL n b (ad 0 0) (adm 0 0) o) hx hb d_law_1167 hl (by decide) rfl (fun ls hl => ?_)
  refine lv_aload_n hx hb d_law_1169 rfl (lv_at hl 4 rfl) ?_
  refine lg_ld (k := 1) hC hX hbl hS.hS (lv_at hl 2 rfl) (lv_at hl 1 rfl) hn hL (by decide) (by decide) d_law_1170 d_law_1171 d_law_1173 d_law_1174 d_law_1175 ?_
  refine lg_ld (k := 2) hC hX hbl hS.hS (lv_at hl 2 rfl) (lv_at hl 1 rfl) hn hL (by decide) (by decide) d_law_1176 d_law_1177 d_law_1179 d_law_1180 d_law_1181 ?_
  refine kLM (va_runV (As := [.int (xs (6 * n + 1)), .int (xs (6 * n + 2))]) (rest := []) ⟨hx, hb, hml, hown, hts⟩ (mX6_position l D dA adm τ _ (xs (6 * n + 1)) (xs (6 * n + 2)) r τ' f2) (cwV 2 hts gW_157 rfl rfl rfl (by decide +kernel) ⟨Nat.le_of_ble_eq_true rfl, Nat.le_of_ble_eq_true rfl⟩) (preLM_of hK hS _) rfl rfl hl.1 rfl (lv_room (Nat.le_of_ble_eq_true rfl)) d_law_1182 hrm) hS (fun H locs hS => ?_)
  exact lgEnd hC hK (by omega) hO hXT hS hc1 hc2 hl d_law_1185 d_law_1187 d_law_1188 d_law_1191 d_law_1193 d_law_1198 d_law_1200 d_law_1203 d_law_1204 d_law_1205 d_law_1206 d_law_1208 d_law_1209 d_law_1210 d_law_1215 (by decide) kk
theorem law_1218 {p : Program} {l : Launch} {e : Env} {s : State} {m : MethodId} {args : Array Value} {below : List Frame} {meth : Method} {c : Code} {H : Heap} {locs : List Loc} {cells slots : Nat} {Q : State → Prop} {ls : Array Slot} {D : va_G} {dA : Nat → ClassId} {x mi n b a am o L : Nat} {xs : Nat → Int32} (hst : l.stackTraces = false) (hC : CTX p s m args meth c code 7 RL ret) (hK : LK D dA s x mi) (hX : va_X b L xs s s.heap) (hbl : b < s.heap.size) (hL : L ≤ 3072) (hn : 6 * n + 6 ≤ L) (hP : LGP D dA s x a am o n H locs cells slots) (hl : lv_has ls 7 (lvL n b a am o)) (kk : ∀ (H1 : Heap) (locs1 : List Loc) (c1 s1 : Nat) (ls1 : Array Slot), LGP D dA s x a am o (n + 1) H1 locs1 c1 s1 → lv_has ls1 7 (lvL n b a am o) → W p l e room_1 s m args below meth c H1 locs1 c1 s1 Q (F0 m 1679 ls1 [])) : W p l e room_1 s m args below meth c H locs cells slots Q (F0 m 1218 ls []) := by
  obtain ⟨ad, σ, v, adm, τ, hS, hI, hc1, hc2⟩ := hP
  have e1 := hS.h0
  have e2 := hS.m0
  subst e1
  subst e2
  obtain ⟨hx, hb, hml, hown, hts, hr, hlk⟩ := id hC
  obtain ⟨u, mc, ms, r, τ', f1, f2, hO⟩ := c_cash hI (xs (6 * n + 1))
  have hrm := OK_room hO (show n < 512 by omega) hc1 hc2
  refine lv_aload_n hx hb d_law_1218 rfl (lv_at hl 2 rfl) ?_
  refine lg_ld (k := 1) hC hX hbl hS.hS (lv_at hl 1 rfl) (lv_at hl 0 rfl) hn hL (by decide) (by decide) d_law_1219 d_law_1220 d_law_1222 d_law_1223 d_law_1224 ?_
  refine lv_aload_n hx hb d_law_1225 rfl (lv_at hl 4 rfl) ?_
  refine kLT (vx_runSW (As := [.ref (ad 0 0), .int (xs (6 * n + 1)), .ref o]) (rest := []) ⟨hx, hb, hml, hown, hts⟩ (mL_cash l hst D dA ad o σ v _ x mi (xs (6 * n + 1)) u mc ms f1 (OK_P hO)) (vx_cwSW 3 hts gW_158 rfl rfl rfl (by decide +kernel) ⟨Nat.le_of_ble_eq_true rfl, Nat.le_of_ble_eq_true rfl⟩) (preLT_of hK hS _) rfl rfl hl.1 rfl (lv_room (Nat.le_of_ble_eq_true rfl)) d_law_1226 hrm) (by decide) hS (fun z σ' v' ad' H locs hXT hS => ?_)
  refine lv_istore (i := 5) (lv' := (5, .int z) :: lvL n b (ad 0 0) (adm 0 0) o) hx hb d_law_1229 hl (by decide) rfl (fun ls hl => ?_)
  refine lv_aload_n hx hb d_law_1231 rfl (lv_at hl 4 rfl) ?_
  refine lg_ld (k := 1) hC hX hbl hS.hS (lv_at hl 2 rfl) (lv_at hl 1 rfl) hn hL (by decide) (by decide) d_law_1232 d_law_1233 d_law_1235 d_law_1236 d_law_1237 ?_
  refine kLM (va_runV (As := [.int (xs (6 * n + 1))]) (rest := []) ⟨hx, hb, hml, hown, hts⟩ (mX6_cash l D dA adm τ _ (xs (6 * n + 1)) r τ' f2) (cwV 1 hts gW_160 rfl rfl rfl (by decide +kernel) ⟨Nat.le_of_ble_eq_true rfl, Nat.le_of_ble_eq_true rfl⟩) (preLM_of hK hS _) rfl rfl hl.1 rfl (lv_room (Nat.le_of_ble_eq_true rfl)) d_law_1238 hrm) hS (fun H locs hS => ?_)
  exact lgEnd hC hK (by omega) hO hXT hS hc1 hc2 hl d_law_1241 d_law_1243 d_law_1244 d_law_1247 d_law_1249 d_law_1254 d_law_1256 d_law_1259 d_law_1260 d_law_1261 d_law_1262 d_law_1264 d_law_1265 d_law_1266 d_law_1271 (by decide) kk
