/-! THE LAW: its cases, second part -/
section LAWC
variable {p : Program} {l : Launch} {e : Env} {s : State} {m : MethodId} {args : Array Value} {below : List Frame} {meth : Method} {c : Code} {H : Heap} {locs : List Loc} {cells slots : Nat} {Q : State → Prop}
variable {g : Gg} {B0 : Nat} {ret : Option FieldType} {ls : Array Slot} {b L : Nat} {xs : Nat → Int32}
set_option maxHeartbeats 4000000 in
set_option maxRecDepth 100000 in
theorem cs_bestRoom (hl9 : l.stackTraces = false) (hC : Cx p s m args meth c RL cL_law 9 ret g B0) (hX : va_X b L xs s s.heap) (hbl : b < s.heap.size) (hbA : ¬ B0 ≤ b) (hL : L ≤ 2560) {x0 m0 o0 d0 k : Nat} (hk4 : k + 4 < L) {C9 S9 : Nat} (hc : cells + 50 ≤ C9) (hs : slots + 400 ≤ S9) (hc9 : C9 ≤ room_1.cells) (hs9 : S9 ≤ room_1.slots) (K : ∀ (H : Heap) (locs : List Loc) (ls : Array Slot), lwS g B0 x0 m0 o0 d0 s H locs → lv_has ls 9 (lv5 b x0 m0 o0 d0 (nI k)) → W p l e room_1 s m args below meth c H locs C9 S9 Q (F0 m 1635 ls [])) (hLS : lwS g B0 x0 m0 o0 d0 s H locs) (hl : lv_has ls 9 (lv5 b x0 m0 o0 d0 (nI k))) : W p l e room_1 s m args below meth c H locs cells slots Q (F0 m 1048 ls []) := by
  have hx := hC.1.1
  have hb := hC.1.2.1
  have hts := hC.1.2.2.2.2
  obtain ⟨kd0, ad, σ, pd, pl, sc, o, od, hI, h3, -, rfl, rfl, rfl, rfl⟩ := hLS
  have hIv := h3.1
  have hT := h3.2.1
  have hB := h3.2.2
  have hok := hIv.1
  have hI := hI.cast fMC
  refine lv_aload_n hx hb dL_law_1048 rfl (lv_at hl 1 rfl) ?_
  refine lawArg hC hX hbl hbA hL hI hl (i0 := 0) (i5 := 5) rfl rfl 1 rfl (by omega) dL_law_1049 dL_law_1050 dL_law_1052 dL_law_1053 dL_law_1054 ?_
  refine lv_aload_n hx hb dL_law_1055 rfl (lv_at hl 3 rfl) ?_
  refine r_callSH (rest := []) hl9 hC hI hl.1 (tL_bestRoom l g B0 ad σ pd pl sc (fM g ad σ pd kd0 (hO g o od)) o rfl (xs (k + 1)) hIv) (vx_cwSW 3 hts (goodSH wd_ml_L_133 wd_st_yL_bestRoom wd_in_RL wd_co_yL_bestRoom) rfl rfl rfl (by decide +kernel) ⟨(Nat.le_of_ble_eq_true rfl), (Nat.le_of_ble_eq_true rfl)⟩) rfl rfl (Nat.le_of_ble_eq_true rfl) dL_law_1056 ⟨by omega, by omega⟩ (fun v a9 w H locs hR hI => ?_) (fun _ _ _ _ _ _ _ z => z.elim)
  obtain ⟨rfl, hA, τ, qd, pl9, sc9, o9, hH, rfl⟩ := hR
  have hI := hI.cast (f' := fM g a9 σ pd kd0 (fC g a9 τ qd pl9 sc9 (hO g o9 od))) (by rw [fM_h (k := 50) (by decide), hO_50, fMC, fM_ad hA])
  refine W.eq (g2 := F0 m 1059 ls [.int (kdPR σ (xs (k + 1)))]) rfl ?_
  refine lv_istore (lv' := (6, .int (kdPR σ (xs (k + 1)))) :: lv5 b (ad 0 0) (ad 20 0) (ad 50 0) (ad 51 0) (nI k)) hx hb dL_law_1059 hl (by decide) rfl (fun ls hl => ?_)
  refine lv_aload_n hx hb dL_law_1061 rfl (lv_at hl 3 rfl) ?_
  refine lawArg hC hX hbl hbA hL hI hl (i0 := 1) (i5 := 6) rfl rfl 1 rfl (by omega) dL_law_1062 dL_law_1063 dL_law_1065 dL_law_1066 dL_law_1067 ?_
  refine r_callV (kk := 20) (ii := 0) (rest := []) hl9 hC hI hl.1 (tX7_bestRoom l g B0 a9 σ pd kd0 (fC g a9 τ qd pl9 sc9 (hO g o9 od)) hok (xs (k + 1))) (cw_L_135 hts rfl rfl ⟨(Nat.le_of_ble_eq_true rfl), (Nat.le_of_ble_eq_true rfl)⟩) fM_o rfl rfl rfl (by rw [hA 20 0 (Or.inr (by decide))]; rfl) (Nat.le_of_ble_eq_true rfl) dL_law_1068 ⟨by omega, by omega⟩ (fun v a2 w H locs hM hI => ?_) (fun _ _ _ _ _ _ _ z => z.elim)
  obtain ⟨bb, rfl, hLT⟩ := law_mid (σ' := σ) (pd' := pd) h3 (fun hk pl9 hP => k3_same h3 hP) hH hA hM hI
  refine W.eq (g2 := F0 m 1071 ls [.int bb]) rfl ?_
  exact lawT hl9 hC K hLT hl (by omega) (by omega) hc9 hs9 (P := 1071) (by decide) dL_law_1071 dL_law_1073 dL_law_1074 dL_law_1077 dL_law_1079 dL_law_1084 dL_law_1086 dL_law_1089 dL_law_1090 dL_law_1091 dL_law_1092 dL_law_1094 dL_law_1095 dL_law_1096 dL_law_1101
set_option maxHeartbeats 4000000 in
set_option maxRecDepth 100000 in
theorem cs_ship (hl9 : l.stackTraces = false) (hC : Cx p s m args meth c RL cL_law 9 ret g B0) (hX : va_X b L xs s s.heap) (hbl : b < s.heap.size) (hbA : ¬ B0 ≤ b) (hL : L ≤ 2560) {x0 m0 o0 d0 k : Nat} (hk4 : k + 4 < L) {C9 S9 : Nat} (hc : cells + 50 ≤ C9) (hs : slots + 400 ≤ S9) (hc9 : C9 ≤ room_1.cells) (hs9 : S9 ≤ room_1.slots) (K : ∀ (H : Heap) (locs : List Loc) (ls : Array Slot), lwS g B0 x0 m0 o0 d0 s H locs → lv_has ls 9 (lv5 b x0 m0 o0 d0 (nI k)) → W p l e room_1 s m args below meth c H locs C9 S9 Q (F0 m 1635 ls [])) (hLS : lwS g B0 x0 m0 o0 d0 s H locs) (hl : lv_has ls 9 (lv5 b x0 m0 o0 d0 (nI k))) : W p l e room_1 s m args below meth c H locs cells slots Q (F0 m 1104 ls []) := by
  have hx := hC.1.1
  have hb := hC.1.2.1
  have hts := hC.1.2.2.2.2
  obtain ⟨kd0, ad, σ, pd, pl, sc, o, od, hI, h3, -, rfl, rfl, rfl, rfl⟩ := hLS
  have hIv := h3.1
  have hT := h3.2.1
  have hB := h3.2.2
  have hok := hIv.1
  have hI := hI.cast fMC
  refine lv_aload_n hx hb dL_law_1104 rfl (lv_at hl 1 rfl) ?_
  refine lawArg hC hX hbl hbA hL hI hl (i0 := 0) (i5 := 5) rfl rfl 1 rfl (by omega) dL_law_1105 dL_law_1106 dL_law_1108 dL_law_1109 dL_law_1110 ?_
  refine lawArg hC hX hbl hbA hL hI hl (i0 := 0) (i5 := 5) rfl rfl 2 rfl (by omega) dL_law_1111 dL_law_1112 dL_law_1114 dL_law_1115 dL_law_1116 ?_
  refine lawArg hC hX hbl hbA hL hI hl (i0 := 0) (i5 := 5) rfl rfl 3 rfl (by omega) dL_law_1117 dL_law_1118 dL_law_1120 dL_law_1121 dL_law_1122 ?_
  refine lv_aload_n hx hb dL_law_1123 rfl (lv_at hl 3 rfl) ?_
  refine r_callSH (rest := []) hl9 hC hI hl.1 (tL_ship l g B0 ad σ pd pl sc (fM g ad σ pd kd0 (hO g o od)) o rfl (xs (k + 1)) (xs (k + 2)) (xs (k + 3)) hIv) (vx_cwSW 5 hts (goodSH wd_ml_L_136 wd_st_yL_ship wd_in_RL wd_co_yL_ship) rfl rfl rfl (by decide +kernel) ⟨(Nat.le_of_ble_eq_true rfl), (Nat.le_of_ble_eq_true rfl)⟩) rfl rfl (Nat.le_of_ble_eq_true rfl) dL_law_1124 ⟨by omega, by omega⟩ (fun v a9 w H locs hR hI => ?_) (fun _ _ _ _ _ _ _ z => z.elim)
  obtain ⟨rfl, hA, τ, qd, pl9, sc9, o9, hH, rfl⟩ := hR
  have hI := hI.cast (f' := fM g a9 σ pd kd0 (fC g a9 τ qd pl9 sc9 (hO g o9 od))) (by rw [fM_h (k := 50) (by decide), hO_50, fMC, fM_ad hA])
  refine W.eq (g2 := F0 m 1127 ls [.int (kdSH σ (xs (k + 1)) (xs (k + 2)) (xs (k + 3)))]) rfl ?_
  refine lv_istore (lv' := (6, .int (kdSH σ (xs (k + 1)) (xs (k + 2)) (xs (k + 3)))) :: lv5 b (ad 0 0) (ad 20 0) (ad 50 0) (ad 51 0) (nI k)) hx hb dL_law_1127 hl (by decide) rfl (fun ls hl => ?_)
  refine lv_aload_n hx hb dL_law_1129 rfl (lv_at hl 3 rfl) ?_
  refine lawArg hC hX hbl hbA hL hI hl (i0 := 1) (i5 := 6) rfl rfl 1 rfl (by omega) dL_law_1130 dL_law_1131 dL_law_1133 dL_law_1134 dL_law_1135 ?_
  refine lawArg hC hX hbl hbA hL hI hl (i0 := 1) (i5 := 6) rfl rfl 2 rfl (by omega) dL_law_1136 dL_law_1137 dL_law_1139 dL_law_1140 dL_law_1141 ?_
  refine lawArg hC hX hbl hbA hL hI hl (i0 := 1) (i5 := 6) rfl rfl 3 rfl (by omega) dL_law_1142 dL_law_1143 dL_law_1145 dL_law_1146 dL_law_1147 ?_
  refine r_callV (kk := 20) (ii := 0) (rest := []) hl9 hC hI hl.1 (tX7_ship l g B0 a9 σ pd kd0 (fC g a9 τ qd pl9 sc9 (hO g o9 od)) hok (xs (k + 1)) (xs (k + 2)) (xs (k + 3))) (cw_L_138 hts rfl rfl ⟨(Nat.le_of_ble_eq_true rfl), (Nat.le_of_ble_eq_true rfl)⟩) fM_o rfl rfl rfl (by rw [hA 20 0 (Or.inr (by decide))]; rfl) (Nat.le_of_ble_eq_true rfl) dL_law_1148 ⟨by omega, by omega⟩ (fun v a2 w H locs hM hI => ?_) (fun _ _ _ _ _ _ _ z => z.elim)
  obtain ⟨bb, rfl, hLT⟩ := law_mid (σ' := stSH σ (xs (k + 1)) (xs (k + 2)) (xs (k + 3))) (pd' := pd) h3 (fun hk pl9 hP => k3_SH h3 hP) hH hA hM hI
  refine W.eq (g2 := F0 m 1151 ls [.int bb]) rfl ?_
  exact lawT hl9 hC K hLT hl (by omega) (by omega) hc9 hs9 (P := 1151) (by decide) dL_law_1151 dL_law_1153 dL_law_1154 dL_law_1157 dL_law_1159 dL_law_1164 dL_law_1166 dL_law_1169 dL_law_1170 dL_law_1171 dL_law_1172 dL_law_1174 dL_law_1175 dL_law_1176 dL_law_1181
set_option maxHeartbeats 4000000 in
set_option maxRecDepth 100000 in
theorem cs_clear (hl9 : l.stackTraces = false) (hC : Cx p s m args meth c RL cL_law 9 ret g B0) (hX : va_X b L xs s s.heap) (hbl : b < s.heap.size) (hbA : ¬ B0 ≤ b) (hL : L ≤ 2560) {x0 m0 o0 d0 k : Nat} (hk4 : k + 4 < L) {C9 S9 : Nat} (hc : cells + 50 ≤ C9) (hs : slots + 400 ≤ S9) (hc9 : C9 ≤ room_1.cells) (hs9 : S9 ≤ room_1.slots) (K : ∀ (H : Heap) (locs : List Loc) (ls : Array Slot), lwS g B0 x0 m0 o0 d0 s H locs → lv_has ls 9 (lv5 b x0 m0 o0 d0 (nI k)) → W p l e room_1 s m args below meth c H locs C9 S9 Q (F0 m 1635 ls [])) (hLS : lwS g B0 x0 m0 o0 d0 s H locs) (hl : lv_has ls 9 (lv5 b x0 m0 o0 d0 (nI k))) : W p l e room_1 s m args below meth c H locs cells slots Q (F0 m 1184 ls []) := by
  have hx := hC.1.1
  have hb := hC.1.2.1
  have hts := hC.1.2.2.2.2
  obtain ⟨kd0, ad, σ, pd, pl, sc, o, od, hI, h3, -, rfl, rfl, rfl, rfl⟩ := hLS
  have hIv := h3.1
  have hT := h3.2.1
  have hB := h3.2.2
  have hok := hIv.1
  have hI := hI.cast fMC
  refine lv_aload_n hx hb dL_law_1184 rfl (lv_at hl 1 rfl) ?_
  refine r_callV (kk := 0) (ii := 0) (rest := []) hl9 hC hI hl.1 (tX6_clear l g B0 ad σ pd pl sc (fM g ad σ pd kd0 (hO g o od)) hIv) (cw_L_139 hts rfl rfl ⟨(Nat.le_of_ble_eq_true rfl), (Nat.le_of_ble_eq_true rfl)⟩) fC_0 rfl rfl rfl rfl (Nat.le_of_ble_eq_true rfl) dL_law_1185 ⟨by omega, by omega⟩ (fun v a9 w H locs hR hI => ?_) (fun _ _ _ _ _ _ _ z => z.elim)
  obtain ⟨-, rfl, hA, pl9, sc9, hP9, rfl⟩ := hR
  have hI := hI.cast (f' := fM g a9 σ pd kd0 (fC g a9 (stCL σ) pd pl9 sc9 (hO g o od))) (by rw [fMC, fM_ad hA])
  refine W.eq (g2 := F0 m 1188 ls [.int (thereS σ (-1) 1)]) rfl ?_
  refine lv_aload_n hx hb dL_law_1188 rfl (lv_at hl 2 rfl) ?_
  refine c_Vi (kk := 20) (ii := 0) (rest := [.int (thereS σ (-1) 1)]) hl9 hC hI hl.1 (tX7_clear l g B0 a9 σ pd kd0 (fC g a9 (stCL σ) pd pl9 sc9 (hO g o od)) hok) (cw_L_142 hts rfl rfl ⟨(Nat.le_of_ble_eq_true rfl), (Nat.le_of_ble_eq_true rfl)⟩) fM_o rfl rfl rfl (by rw [hA 20 0 (Or.inr (by decide))]; rfl) (Nat.le_of_ble_eq_true rfl) dL_law_1189 ⟨by omega, by omega⟩ (fun H locs hI => ?_)
  refine lv_icmp_eq (tgt := 1635) hx hb dL_law_1192 (by decide) (fun _ => ?_) (fun z => absurd rfl z)
  refine W.widen (k := C9) (n := S9) (by omega) (by omega) ?_
  exact K H locs ls ⟨0, a9, stCL σ, pd, pl9, sc9, o, od, hI, k3_CL h3 hP9, trivial, hA 0 0 (Or.inl rfl), hA 20 0 (Or.inr (by decide)), hA 50 0 (Or.inr (by decide)), hA 51 0 (Or.inr (by decide))⟩ hl
set_option maxHeartbeats 4000000 in
set_option maxRecDepth 100000 in
theorem cs_stock (hl9 : l.stackTraces = false) (hC : Cx p s m args meth c RL cL_law 9 ret g B0) (hX : va_X b L xs s s.heap) (hbl : b < s.heap.size) (hbA : ¬ B0 ≤ b) (hL : L ≤ 2560) {x0 m0 o0 d0 k : Nat} (hk4 : k + 4 < L) {C9 S9 : Nat} (hc : cells + 50 ≤ C9) (hs : slots + 400 ≤ S9) (hc9 : C9 ≤ room_1.cells) (hs9 : S9 ≤ room_1.slots) (K : ∀ (H : Heap) (locs : List Loc) (ls : Array Slot), lwS g B0 x0 m0 o0 d0 s H locs → lv_has ls 9 (lv5 b x0 m0 o0 d0 (nI k)) → W p l e room_1 s m args below meth c H locs C9 S9 Q (F0 m 1635 ls [])) (hLS : lwS g B0 x0 m0 o0 d0 s H locs) (hl : lv_has ls 9 (lv5 b x0 m0 o0 d0 (nI k))) : W p l e room_1 s m args below meth c H locs cells slots Q (F0 m 1197 ls []) := by
  have hx := hC.1.1
  have hb := hC.1.2.1
  have hts := hC.1.2.2.2.2
  obtain ⟨kd0, ad, σ, pd, pl, sc, o, od, hI, h3, -, rfl, rfl, rfl, rfl⟩ := hLS
  have hIv := h3.1
  have hT := h3.2.1
  have hB := h3.2.2
  have hok := hIv.1
  have hI := hI.cast fMC
  refine lv_aload_n hx hb dL_law_1197 rfl (lv_at hl 1 rfl) ?_
  refine lawArg hC hX hbl hbA hL hI hl (i0 := 0) (i5 := 5) rfl rfl 1 rfl (by omega) dL_law_1198 dL_law_1199 dL_law_1201 dL_law_1202 dL_law_1203 ?_
  refine lawArg hC hX hbl hbA hL hI hl (i0 := 0) (i5 := 5) rfl rfl 2 rfl (by omega) dL_law_1204 dL_law_1205 dL_law_1207 dL_law_1208 dL_law_1209 ?_
  refine lawBool hC dL_law_1210 dL_law_1213 dL_law_1214 dL_law_1217 ?_
  refine lv_aload_n hx hb dL_law_1218 rfl (lv_at hl 3 rfl) ?_
  refine r_callSH (rest := []) hl9 hC hI hl.1 (tL_stock l g B0 ad σ pd pl sc (fM g ad σ pd kd0 (hO g o od)) o rfl (xs (k + 1)) (bi (¬ xs (k + 2) = 0)) hIv) (vx_cwSW 4 hts (goodSH wd_ml_L_143 wd_st_yL_stock wd_in_RL wd_co_yL_stock) rfl rfl rfl (by decide +kernel) ⟨(Nat.le_of_ble_eq_true rfl), (Nat.le_of_ble_eq_true rfl)⟩) rfl rfl (Nat.le_of_ble_eq_true rfl) dL_law_1219 ⟨by omega, by omega⟩ (fun v a9 w H locs hR hI => ?_) (fun _ _ _ _ _ _ _ z => z.elim)
  obtain ⟨rfl, hA, τ, qd, pl9, sc9, o9, hH, rfl⟩ := hR
  have hI := hI.cast (f' := fM g a9 σ pd kd0 (fC g a9 τ qd pl9 sc9 (hO g o9 od))) (by rw [fM_h (k := 50) (by decide), hO_50, fMC, fM_ad hA])
  refine W.eq (g2 := F0 m 1222 ls [.int (kdST σ (xs (k + 1)))]) rfl ?_
  refine lv_istore (lv' := (6, .int (kdST σ (xs (k + 1)))) :: lv5 b (ad 0 0) (ad 20 0) (ad 50 0) (ad 51 0) (nI k)) hx hb dL_law_1222 hl (by decide) rfl (fun ls hl => ?_)
  refine lv_aload_n hx hb dL_law_1224 rfl (lv_at hl 3 rfl) ?_
  refine lawArg hC hX hbl hbA hL hI hl (i0 := 1) (i5 := 6) rfl rfl 1 rfl (by omega) dL_law_1225 dL_law_1226 dL_law_1228 dL_law_1229 dL_law_1230 ?_
  refine lawArg hC hX hbl hbA hL hI hl (i0 := 1) (i5 := 6) rfl rfl 2 rfl (by omega) dL_law_1231 dL_law_1232 dL_law_1234 dL_law_1235 dL_law_1236 ?_
  refine lawBool hC dL_law_1237 dL_law_1240 dL_law_1241 dL_law_1244 ?_
  refine r_callV (kk := 20) (ii := 0) (rest := []) hl9 hC hI hl.1 (tX7_stock l g B0 a9 σ pd kd0 (fC g a9 τ qd pl9 sc9 (hO g o9 od)) hok (xs (k + 1)) (bi (¬ xs (k + 2) = 0))) (cw_L_146 hts rfl rfl ⟨(Nat.le_of_ble_eq_true rfl), (Nat.le_of_ble_eq_true rfl)⟩) fM_o rfl rfl rfl (by rw [hA 20 0 (Or.inr (by decide))]; rfl) (Nat.le_of_ble_eq_true rfl) dL_law_1245 ⟨by omega, by omega⟩ (fun v a2 w H locs hM hI => ?_) (fun _ _ _ _ _ _ _ z => z.elim)
  obtain ⟨bb, rfl, hLT⟩ := law_mid (σ' := σ) (pd' := pd) h3 (fun hk pl9 hP => k3_same h3 hP) hH hA hM hI
  refine W.eq (g2 := F0 m 1248 ls [.int bb]) rfl ?_
  exact lawT hl9 hC K hLT hl (by omega) (by omega) hc9 hs9 (P := 1248) (by decide) dL_law_1248 dL_law_1250 dL_law_1251 dL_law_1254 dL_law_1256 dL_law_1261 dL_law_1263 dL_law_1266 dL_law_1267 dL_law_1268 dL_law_1269 dL_law_1271 dL_law_1272 dL_law_1273 dL_law_1278
set_option maxHeartbeats 4000000 in
set_option maxRecDepth 100000 in
theorem cs_count (hl9 : l.stackTraces = false) (hC : Cx p s m args meth c RL cL_law 9 ret g B0) (hX : va_X b L xs s s.heap) (hbl : b < s.heap.size) (hbA : ¬ B0 ≤ b) (hL : L ≤ 2560) {x0 m0 o0 d0 k : Nat} (hk4 : k + 4 < L) {C9 S9 : Nat} (hc : cells + 50 ≤ C9) (hs : slots + 400 ≤ S9) (hc9 : C9 ≤ room_1.cells) (hs9 : S9 ≤ room_1.slots) (K : ∀ (H : Heap) (locs : List Loc) (ls : Array Slot), lwS g B0 x0 m0 o0 d0 s H locs → lv_has ls 9 (lv5 b x0 m0 o0 d0 (nI k)) → W p l e room_1 s m args below meth c H locs C9 S9 Q (F0 m 1635 ls [])) (hLS : lwS g B0 x0 m0 o0 d0 s H locs) (hl : lv_has ls 9 (lv5 b x0 m0 o0 d0 (nI k))) : W p l e room_1 s m args below meth c H locs cells slots Q (F0 m 1281 ls []) := by
  have hx := hC.1.1
  have hb := hC.1.2.1
  have hts := hC.1.2.2.2.2
  obtain ⟨kd0, ad, σ, pd, pl, sc, o, od, hI, h3, -, rfl, rfl, rfl, rfl⟩ := hLS
  have hIv := h3.1
  have hT := h3.2.1
  have hB := h3.2.2
  have hok := hIv.1
  have hI := hI.cast fMC
  refine lv_aload_n hx hb dL_law_1281 rfl (lv_at hl 1 rfl) ?_
  refine lawArg hC hX hbl hbA hL hI hl (i0 := 0) (i5 := 5) rfl rfl 1 rfl (by omega) dL_law_1282 dL_law_1283 dL_law_1285 dL_law_1286 dL_law_1287 ?_
  refine lv_aload_n hx hb dL_law_1288 rfl (lv_at hl 3 rfl) ?_
  refine r_callSH (rest := []) hl9 hC hI hl.1 (tL_count l g B0 ad σ pd pl sc (fM g ad σ pd kd0 (hO g o od)) o rfl (xs (k + 1)) hIv) (vx_cwSW 3 hts (goodSH wd_ml_L_147 wd_st_yL_count wd_in_RL wd_co_yL_count) rfl rfl rfl (by decide +kernel) ⟨(Nat.le_of_ble_eq_true rfl), (Nat.le_of_ble_eq_true rfl)⟩) rfl rfl (Nat.le_of_ble_eq_true rfl) dL_law_1289 ⟨by omega, by omega⟩ (fun v a9 w H locs hR hI => ?_) (fun _ _ _ _ _ _ _ z => z.elim)
  obtain ⟨rfl, hA, τ, qd, pl9, sc9, o9, hH, rfl⟩ := hR
  have hI := hI.cast (f' := fM g a9 σ pd kd0 (fC g a9 τ qd pl9 sc9 (hO g o9 od))) (by rw [fM_h (k := 50) (by decide), hO_50, fMC, fM_ad hA])
  refine W.eq (g2 := F0 m 1292 ls [.int (kdCO (xs (k + 1)))]) rfl ?_
  refine lv_istore (lv' := (6, .int (kdCO (xs (k + 1)))) :: lv5 b (ad 0 0) (ad 20 0) (ad 50 0) (ad 51 0) (nI k)) hx hb dL_law_1292 hl (by decide) rfl (fun ls hl => ?_)
  refine lv_aload_n hx hb dL_law_1294 rfl (lv_at hl 3 rfl) ?_
  refine lawArg hC hX hbl hbA hL hI hl (i0 := 1) (i5 := 6) rfl rfl 1 rfl (by omega) dL_law_1295 dL_law_1296 dL_law_1298 dL_law_1299 dL_law_1300 ?_
  refine r_callV (kk := 20) (ii := 0) (rest := []) hl9 hC hI hl.1 (tX7_count l g B0 a9 σ pd kd0 (fC g a9 τ qd pl9 sc9 (hO g o9 od)) hok (xs (k + 1))) (cw_L_149 hts rfl rfl ⟨(Nat.le_of_ble_eq_true rfl), (Nat.le_of_ble_eq_true rfl)⟩) fM_o rfl rfl rfl (by rw [hA 20 0 (Or.inr (by decide))]; rfl) (Nat.le_of_ble_eq_true rfl) dL_law_1301 ⟨by omega, by omega⟩ (fun v a2 w H locs hM hI => ?_) (fun _ _ _ _ _ _ _ z => z.elim)
  obtain ⟨bb, rfl, hLT⟩ := law_mid (σ' := σ) (pd' := pd) h3 (fun hk pl9 hP => k3_same h3 hP) hH hA hM hI
  refine W.eq (g2 := F0 m 1304 ls [.int bb]) rfl ?_
  exact lawT hl9 hC K hLT hl (by omega) (by omega) hc9 hs9 (P := 1304) (by decide) dL_law_1304 dL_law_1306 dL_law_1307 dL_law_1310 dL_law_1312 dL_law_1317 dL_law_1319 dL_law_1322 dL_law_1323 dL_law_1324 dL_law_1325 dL_law_1327 dL_law_1328 dL_law_1329 dL_law_1334
set_option maxHeartbeats 4000000 in
set_option maxRecDepth 100000 in
theorem cs_tick (hl9 : l.stackTraces = false) (hC : Cx p s m args meth c RL cL_law 9 ret g B0) (hX : va_X b L xs s s.heap) (hbl : b < s.heap.size) (hbA : ¬ B0 ≤ b) (hL : L ≤ 2560) {x0 m0 o0 d0 k : Nat} (hk4 : k + 4 < L) {C9 S9 : Nat} (hc : cells + 50 ≤ C9) (hs : slots + 400 ≤ S9) (hc9 : C9 ≤ room_1.cells) (hs9 : S9 ≤ room_1.slots) (K : ∀ (H : Heap) (locs : List Loc) (ls : Array Slot), lwS g B0 x0 m0 o0 d0 s H locs → lv_has ls 9 (lv5 b x0 m0 o0 d0 (nI k)) → W p l e room_1 s m args below meth c H locs C9 S9 Q (F0 m 1635 ls [])) (hLS : lwS g B0 x0 m0 o0 d0 s H locs) (hl : lv_has ls 9 (lv5 b x0 m0 o0 d0 (nI k))) : W p l e room_1 s m args below meth c H locs cells slots Q (F0 m 1337 ls []) := by
  have hx := hC.1.1
  have hb := hC.1.2.1
  have hts := hC.1.2.2.2.2
  obtain ⟨kd0, ad, σ, pd, pl, sc, o, od, hI, h3, -, rfl, rfl, rfl, rfl⟩ := hLS
  have hIv := h3.1
  have hT := h3.2.1
  have hB := h3.2.2
  have hok := hIv.1
  have hI := hI.cast fMC
  refine lv_aload_n hx hb dL_law_1337 rfl (lv_at hl 1 rfl) ?_
  refine lawArg hC hX hbl hbA hL hI hl (i0 := 0) (i5 := 5) rfl rfl 1 rfl (by omega) dL_law_1338 dL_law_1339 dL_law_1341 dL_law_1342 dL_law_1343 ?_
  refine lv_aload_n hx hb dL_law_1344 rfl (lv_at hl 3 rfl) ?_
  refine r_callSH (rest := []) hl9 hC hI hl.1 (tL_tick l g B0 ad σ pd pl sc (fM g ad σ pd kd0 (hO g o od)) o rfl (xs (k + 1)) hT hB hIv) (vx_cwSW 3 hts (goodSH wd_ml_L_150 wd_st_yL_tick wd_in_RL wd_co_yL_tick) rfl rfl rfl (by decide +kernel) ⟨(Nat.le_of_ble_eq_true rfl), (Nat.le_of_ble_eq_true rfl)⟩) rfl rfl (Nat.le_of_ble_eq_true rfl) dL_law_1345 ⟨by omega, by omega⟩ (fun v a9 w H locs hR hI => ?_) (fun _ _ _ _ _ _ _ z => z.elim)
  obtain ⟨rfl, hA, τ, qd, pl9, sc9, o9, hH, rfl⟩ := hR
  have hI := hI.cast (f' := fM g a9 σ pd kd0 (fC g a9 τ qd pl9 sc9 (hO g o9 od))) (by rw [fM_h (k := 50) (by decide), hO_50, fMC, fM_ad hA])
  refine W.eq (g2 := F0 m 1348 ls [.int (kdTI σ (xs (k + 1)))]) rfl ?_
  refine lv_istore (lv' := (6, .int (kdTI σ (xs (k + 1)))) :: lv5 b (ad 0 0) (ad 20 0) (ad 50 0) (ad 51 0) (nI k)) hx hb dL_law_1348 hl (by decide) rfl (fun ls hl => ?_)
  refine lv_aload_n hx hb dL_law_1350 rfl (lv_at hl 3 rfl) ?_
  refine lawArg hC hX hbl hbA hL hI hl (i0 := 1) (i5 := 6) rfl rfl 1 rfl (by omega) dL_law_1351 dL_law_1352 dL_law_1354 dL_law_1355 dL_law_1356 ?_
  refine r_callV (kk := 20) (ii := 0) (rest := []) hl9 hC hI hl.1 (tX7_tick l g B0 a9 σ pd kd0 (fC g a9 τ qd pl9 sc9 (hO g o9 od)) hok hT (xs (k + 1))) (cw_L_152 hts rfl rfl ⟨(Nat.le_of_ble_eq_true rfl), (Nat.le_of_ble_eq_true rfl)⟩) fM_o rfl rfl rfl (by rw [hA 20 0 (Or.inr (by decide))]; rfl) (Nat.le_of_ble_eq_true rfl) dL_law_1357 ⟨by omega, by omega⟩ (fun v a2 w H locs hM hI => ?_) (fun _ _ _ _ _ _ _ z => z.elim)
  obtain ⟨bb, rfl, hLT⟩ := law_mid (σ' := (tickAt (σ, pd) (cN (xs (k + 1)))).1) (pd' := (tickAt (σ, pd) (cN (xs (k + 1)))).2) h3 (fun hk pl9 hP => k3_TI h3 hk hP) hH hA hM hI
  refine W.eq (g2 := F0 m 1360 ls [.int bb]) rfl ?_
  exact lawT hl9 hC K hLT hl (by omega) (by omega) hc9 hs9 (P := 1360) (by decide) dL_law_1360 dL_law_1362 dL_law_1363 dL_law_1366 dL_law_1368 dL_law_1373 dL_law_1375 dL_law_1378 dL_law_1379 dL_law_1380 dL_law_1381 dL_law_1383 dL_law_1384 dL_law_1385 dL_law_1390
set_option maxHeartbeats 4000000 in
set_option maxRecDepth 100000 in
theorem cs_foretell (hl9 : l.stackTraces = false) (hC : Cx p s m args meth c RL cL_law 9 ret g B0) (hX : va_X b L xs s s.heap) (hbl : b < s.heap.size) (hbA : ¬ B0 ≤ b) (hL : L ≤ 2560) {x0 m0 o0 d0 k : Nat} (hk4 : k + 4 < L) {C9 S9 : Nat} (hc : cells + 50 ≤ C9) (hs : slots + 400 ≤ S9) (hc9 : C9 ≤ room_1.cells) (hs9 : S9 ≤ room_1.slots) (K : ∀ (H : Heap) (locs : List Loc) (ls : Array Slot), lwS g B0 x0 m0 o0 d0 s H locs → lv_has ls 9 (lv5 b x0 m0 o0 d0 (nI k)) → W p l e room_1 s m args below meth c H locs C9 S9 Q (F0 m 1635 ls [])) (hLS : lwS g B0 x0 m0 o0 d0 s H locs) (hl : lv_has ls 9 (lv5 b x0 m0 o0 d0 (nI k))) : W p l e room_1 s m args below meth c H locs cells slots Q (F0 m 1393 ls []) := by
  have hx := hC.1.1
  have hb := hC.1.2.1
  have hts := hC.1.2.2.2.2
  obtain ⟨kd0, ad, σ, pd, pl, sc, o, od, hI, h3, -, rfl, rfl, rfl, rfl⟩ := hLS
  have hIv := h3.1
  have hT := h3.2.1
  have hB := h3.2.2
  have hok := hIv.1
  have hI := hI.cast fMC
  refine lv_aload_n hx hb dL_law_1393 rfl (lv_at hl 1 rfl) ?_
  refine lawArg hC hX hbl hbA hL hI hl (i0 := 0) (i5 := 5) rfl rfl 1 rfl (by omega) dL_law_1394 dL_law_1395 dL_law_1397 dL_law_1398 dL_law_1399 ?_
  refine lawArg hC hX hbl hbA hL hI hl (i0 := 0) (i5 := 5) rfl rfl 2 rfl (by omega) dL_law_1400 dL_law_1401 dL_law_1403 dL_law_1404 dL_law_1405 ?_
  refine lv_aload_n hx hb dL_law_1406 rfl (lv_at hl 3 rfl) ?_
  refine r_callSH (rest := []) hl9 hC hI hl.1 (tL_foretell l g B0 ad σ pd pl sc (fM g ad σ pd kd0 (hO g o od)) o rfl (xs (k + 1)) (xs (k + 2)) hT hB hIv) (vx_cwSW 4 hts (goodSH wd_ml_L_153 wd_st_yL_foretell wd_in_RL wd_co_yL_foretell) rfl rfl rfl (by decide +kernel) ⟨(Nat.le_of_ble_eq_true rfl), (Nat.le_of_ble_eq_true rfl)⟩) rfl rfl (Nat.le_of_ble_eq_true rfl) dL_law_1407 ⟨by omega, by omega⟩ (fun v a9 w H locs hR hI => ?_) (fun _ _ _ _ _ _ _ z => z.elim)
  obtain ⟨rfl, hA, τ, qd, pl9, sc9, o9, hH, rfl⟩ := hR
  have hI := hI.cast (f' := fM g a9 σ pd kd0 (fC g a9 τ qd pl9 sc9 (hO g o9 od))) (by rw [fM_h (k := 50) (by decide), hO_50, fMC, fM_ad hA])
  refine W.eq (g2 := F0 m 1410 ls [.int (kdFO σ (xs (k + 1)) (xs (k + 2)))]) rfl ?_
  refine lv_istore (lv' := (6, .int (kdFO σ (xs (k + 1)) (xs (k + 2)))) :: lv5 b (ad 0 0) (ad 20 0) (ad 50 0) (ad 51 0) (nI k)) hx hb dL_law_1410 hl (by decide) rfl (fun ls hl => ?_)
  refine lv_aload_n hx hb dL_law_1412 rfl (lv_at hl 3 rfl) ?_
  refine lawArg hC hX hbl hbA hL hI hl (i0 := 1) (i5 := 6) rfl rfl 1 rfl (by omega) dL_law_1413 dL_law_1414 dL_law_1416 dL_law_1417 dL_law_1418 ?_
  refine lawArg hC hX hbl hbA hL hI hl (i0 := 1) (i5 := 6) rfl rfl 2 rfl (by omega) dL_law_1419 dL_law_1420 dL_law_1422 dL_law_1423 dL_law_1424 ?_
  refine r_callV (kk := 20) (ii := 0) (rest := []) hl9 hC hI hl.1 (tX7_foretell l g B0 a9 σ pd kd0 (fC g a9 τ qd pl9 sc9 (hO g o9 od)) hok hT hO_60 (xs (k + 1)) (xs (k + 2))) (cw_L_155 hts rfl rfl ⟨(Nat.le_of_ble_eq_true rfl), (Nat.le_of_ble_eq_true rfl)⟩) fM_o rfl rfl rfl (by rw [hA 20 0 (Or.inr (by decide))]; rfl) (Nat.le_of_ble_eq_true rfl) dL_law_1425 ⟨by omega, by omega⟩ (fun v a2 w H locs hM hI => ?_) (fun _ _ _ _ _ _ _ z => z.elim)
  obtain ⟨bb, rfl, hLT⟩ := law_mid (σ' := σ) (pd' := pd) h3 (fun hk pl9 hP => k3_same h3 hP) hH hA hM hI
  refine W.eq (g2 := F0 m 1428 ls [.int bb]) rfl ?_
  exact lawT hl9 hC K hLT hl (by omega) (by omega) hc9 hs9 (P := 1428) (by decide) dL_law_1428 dL_law_1430 dL_law_1431 dL_law_1434 dL_law_1436 dL_law_1441 dL_law_1443 dL_law_1446 dL_law_1447 dL_law_1448 dL_law_1449 dL_law_1451 dL_law_1452 dL_law_1453 dL_law_1458
set_option maxHeartbeats 4000000 in
set_option maxRecDepth 100000 in
theorem cs_lasts (hl9 : l.stackTraces = false) (hC : Cx p s m args meth c RL cL_law 9 ret g B0) (hX : va_X b L xs s s.heap) (hbl : b < s.heap.size) (hbA : ¬ B0 ≤ b) (hL : L ≤ 2560) {x0 m0 o0 d0 k : Nat} (hk4 : k + 4 < L) {C9 S9 : Nat} (hc : cells + 50 ≤ C9) (hs : slots + 400 ≤ S9) (hc9 : C9 ≤ room_1.cells) (hs9 : S9 ≤ room_1.slots) (K : ∀ (H : Heap) (locs : List Loc) (ls : Array Slot), lwS g B0 x0 m0 o0 d0 s H locs → lv_has ls 9 (lv5 b x0 m0 o0 d0 (nI k)) → W p l e room_1 s m args below meth c H locs C9 S9 Q (F0 m 1635 ls [])) (hLS : lwS g B0 x0 m0 o0 d0 s H locs) (hl : lv_has ls 9 (lv5 b x0 m0 o0 d0 (nI k))) : W p l e room_1 s m args below meth c H locs cells slots Q (F0 m 1461 ls []) := by
  have hx := hC.1.1
  have hb := hC.1.2.1
  have hts := hC.1.2.2.2.2
  obtain ⟨kd0, ad, σ, pd, pl, sc, o, od, hI, h3, -, rfl, rfl, rfl, rfl⟩ := hLS
  have hIv := h3.1
  have hT := h3.2.1
  have hB := h3.2.2
  have hok := hIv.1
  have hI := hI.cast fMC
  refine lv_aload_n hx hb dL_law_1461 rfl (lv_at hl 1 rfl) ?_
  refine lawArg hC hX hbl hbA hL hI hl (i0 := 0) (i5 := 5) rfl rfl 1 rfl (by omega) dL_law_1462 dL_law_1463 dL_law_1465 dL_law_1466 dL_law_1467 ?_
  refine lv_aload_n hx hb dL_law_1468 rfl (lv_at hl 3 rfl) ?_
  refine r_callSH (rest := []) hl9 hC hI hl.1 (tL_lasts l g B0 ad σ pd pl sc (fM g ad σ pd kd0 (hO g o od)) o rfl (xs (k + 1)) hT hB hIv) (vx_cwSW 3 hts (goodSH wd_ml_L_156 wd_st_yL_lasts wd_in_RL wd_co_yL_lasts) rfl rfl rfl (by decide +kernel) ⟨(Nat.le_of_ble_eq_true rfl), (Nat.le_of_ble_eq_true rfl)⟩) rfl rfl (Nat.le_of_ble_eq_true rfl) dL_law_1469 ⟨by omega, by omega⟩ (fun v a9 w H locs hR hI => ?_) (fun _ _ _ _ _ _ _ z => z.elim)
  obtain ⟨rfl, hA, τ, qd, pl9, sc9, o9, hH, rfl⟩ := hR
  have hI := hI.cast (f' := fM g a9 σ pd kd0 (fC g a9 τ qd pl9 sc9 (hO g o9 od))) (by rw [fM_h (k := 50) (by decide), hO_50, fMC, fM_ad hA])
  refine W.eq (g2 := F0 m 1472 ls [.int (kdLA σ (xs (k + 1)))]) rfl ?_
  refine lv_istore (lv' := (6, .int (kdLA σ (xs (k + 1)))) :: lv5 b (ad 0 0) (ad 20 0) (ad 50 0) (ad 51 0) (nI k)) hx hb dL_law_1472 hl (by decide) rfl (fun ls hl => ?_)
  refine lv_aload_n hx hb dL_law_1474 rfl (lv_at hl 3 rfl) ?_
  refine lawArg hC hX hbl hbA hL hI hl (i0 := 1) (i5 := 6) rfl rfl 1 rfl (by omega) dL_law_1475 dL_law_1476 dL_law_1478 dL_law_1479 dL_law_1480 ?_
  refine r_callV (kk := 20) (ii := 0) (rest := []) hl9 hC hI hl.1 (tX7_lasts l g B0 a9 σ pd kd0 (fC g a9 τ qd pl9 sc9 (hO g o9 od)) hok hT hO_60 (xs (k + 1))) (cw_L_158 hts rfl rfl ⟨(Nat.le_of_ble_eq_true rfl), (Nat.le_of_ble_eq_true rfl)⟩) fM_o rfl rfl rfl (by rw [hA 20 0 (Or.inr (by decide))]; rfl) (Nat.le_of_ble_eq_true rfl) dL_law_1481 ⟨by omega, by omega⟩ (fun v a2 w H locs hM hI => ?_) (fun _ _ _ _ _ _ _ z => z.elim)
  obtain ⟨bb, rfl, hLT⟩ := law_mid (σ' := σ) (pd' := pd) h3 (fun hk pl9 hP => k3_same h3 hP) hH hA hM hI
  refine W.eq (g2 := F0 m 1484 ls [.int bb]) rfl ?_
  exact lawT hl9 hC K hLT hl (by omega) (by omega) hc9 hs9 (P := 1484) (by decide) dL_law_1484 dL_law_1486 dL_law_1487 dL_law_1490 dL_law_1492 dL_law_1497 dL_law_1499 dL_law_1502 dL_law_1503 dL_law_1504 dL_law_1505 dL_law_1507 dL_law_1508 dL_law_1509 dL_law_1514
set_option maxHeartbeats 4000000 in
set_option maxRecDepth 100000 in
theorem cs_now (hl9 : l.stackTraces = false) (hC : Cx p s m args meth c RL cL_law 9 ret g B0) (hX : va_X b L xs s s.heap) (hbl : b < s.heap.size) (hbA : ¬ B0 ≤ b) (hL : L ≤ 2560) {x0 m0 o0 d0 k : Nat} (hk4 : k + 4 < L) {C9 S9 : Nat} (hc : cells + 50 ≤ C9) (hs : slots + 400 ≤ S9) (hc9 : C9 ≤ room_1.cells) (hs9 : S9 ≤ room_1.slots) (K : ∀ (H : Heap) (locs : List Loc) (ls : Array Slot), lwS g B0 x0 m0 o0 d0 s H locs → lv_has ls 9 (lv5 b x0 m0 o0 d0 (nI k)) → W p l e room_1 s m args below meth c H locs C9 S9 Q (F0 m 1635 ls [])) (hLS : lwS g B0 x0 m0 o0 d0 s H locs) (hl : lv_has ls 9 (lv5 b x0 m0 o0 d0 (nI k))) : W p l e room_1 s m args below meth c H locs cells slots Q (F0 m 1517 ls []) := by
  have hx := hC.1.1
  have hb := hC.1.2.1
  have hts := hC.1.2.2.2.2
  obtain ⟨kd0, ad, σ, pd, pl, sc, o, od, hI, h3, -, rfl, rfl, rfl, rfl⟩ := hLS
  have hIv := h3.1
  have hT := h3.2.1
  have hB := h3.2.2
  have hok := hIv.1
  have hI := hI.cast fMC
  refine lv_aload_n hx hb dL_law_1517 rfl (lv_at hl 1 rfl) ?_
  refine c_Vi (kk := 0) (ii := 0) (rest := []) hl9 hC hI hl.1 (tX6_now l g B0 ad σ pd pl sc (fM g ad σ pd kd0 (hO g o od))) (cw_L_159 hts rfl rfl ⟨(Nat.le_of_ble_eq_true rfl), (Nat.le_of_ble_eq_true rfl)⟩) fC_0 rfl rfl rfl rfl (Nat.le_of_ble_eq_true rfl) dL_law_1518 ⟨by omega, by omega⟩ (fun H locs hI => ?_)
  have hI := hI.cast (f' := fM g ad σ pd kd0 (fC g ad σ pd pl sc (hO g o od))) fMC.symm
  refine lv_aload_n hx hb dL_law_1521 rfl (lv_at hl 2 rfl) ?_
  refine c_Vi (kk := 20) (ii := 0) (rest := [.int (σ 1 0)]) hl9 hC hI hl.1 (tX7_now l g B0 ad σ pd kd0 (fC g ad σ pd pl sc (hO g o od))) (cw_L_162 hts rfl rfl ⟨(Nat.le_of_ble_eq_true rfl), (Nat.le_of_ble_eq_true rfl)⟩) fM_o rfl rfl rfl rfl (Nat.le_of_ble_eq_true rfl) dL_law_1522 ⟨by omega, by omega⟩ (fun H locs hI => ?_)
  refine lv_icmp_eq (tgt := 1635) hx hb dL_law_1525 (by decide) (fun _ => ?_) (fun z => absurd rfl z)
  refine W.widen (k := C9) (n := S9) (by omega) (by omega) ?_
  exact K H locs ls ⟨0, ad, σ, pd, pl, sc, o, od, hI, h3, trivial, rfl, rfl, rfl, rfl⟩ hl
set_option maxHeartbeats 4000000 in
set_option maxRecDepth 100000 in
theorem cs_paid (hl9 : l.stackTraces = false) (hC : Cx p s m args meth c RL cL_law 9 ret g B0) (hX : va_X b L xs s s.heap) (hbl : b < s.heap.size) (hbA : ¬ B0 ≤ b) (hL : L ≤ 2560) {x0 m0 o0 d0 k : Nat} (hk4 : k + 4 < L) {C9 S9 : Nat} (hc : cells + 50 ≤ C9) (hs : slots + 400 ≤ S9) (hc9 : C9 ≤ room_1.cells) (hs9 : S9 ≤ room_1.slots) (K : ∀ (H : Heap) (locs : List Loc) (ls : Array Slot), lwS g B0 x0 m0 o0 d0 s H locs → lv_has ls 9 (lv5 b x0 m0 o0 d0 (nI k)) → W p l e room_1 s m args below meth c H locs C9 S9 Q (F0 m 1635 ls [])) (hLS : lwS g B0 x0 m0 o0 d0 s H locs) (hl : lv_has ls 9 (lv5 b x0 m0 o0 d0 (nI k))) : W p l e room_1 s m args below meth c H locs cells slots Q (F0 m 1530 ls []) := by
  have hx := hC.1.1
  have hb := hC.1.2.1
  have hts := hC.1.2.2.2.2
  obtain ⟨kd0, ad, σ, pd, pl, sc, o, od, hI, h3, -, rfl, rfl, rfl, rfl⟩ := hLS
  have hIv := h3.1
  have hT := h3.2.1
  have hB := h3.2.2
  have hok := hIv.1
  have hI := hI.cast fMC
  refine lv_aload_n hx hb dL_law_1530 rfl (lv_at hl 1 rfl) ?_
  refine c_Vl (kk := 0) (ii := 0) (rest := []) hl9 hC hI hl.1 (tX6_paid l g B0 ad σ pd pl sc (fM g ad σ pd kd0 (hO g o od))) (cw_L_163 hts rfl rfl ⟨(Nat.le_of_ble_eq_true rfl), (Nat.le_of_ble_eq_true rfl)⟩) fC_0 rfl rfl rfl rfl (Nat.le_of_ble_eq_true rfl) dL_law_1531 ⟨by omega, by omega⟩ (fun H locs hI => ?_)
  have hI := hI.cast (f' := fM g ad σ pd kd0 (fC g ad σ pd pl sc (hO g o od))) fMC.symm
  refine lv_aload_n hx hb dL_law_1534 rfl (lv_at hl 2 rfl) ?_
  refine c_Vl (kk := 20) (ii := 0) (rest := [.long pd]) hl9 hC hI hl.1 (tX7_paid l g B0 ad σ pd kd0 (fC g ad σ pd pl sc (hO g o od))) (cw_L_167 hts rfl rfl ⟨(Nat.le_of_ble_eq_true rfl), (Nat.le_of_ble_eq_true rfl)⟩) fM_o rfl rfl rfl rfl (Nat.le_of_ble_eq_true rfl) dL_law_1535 ⟨by omega, by omega⟩ (fun H locs hI => ?_)
  refine W.lcmp hx hb dL_law_1538 ?_
  rw [lcmp_same]
  refine lv_if_eq (tgt := 1635) hx hb dL_law_1539 (by decide) (fun _ => ?_) (fun z => absurd rfl z)
  refine W.widen (k := C9) (n := S9) (by omega) (by omega) ?_
  exact K H locs ls ⟨0, ad, σ, pd, pl, sc, o, od, hI, h3, trivial, rfl, rfl, rfl, rfl⟩ hl
set_option maxHeartbeats 4000000 in
set_option maxRecDepth 100000 in
theorem cs_freshness (hl9 : l.stackTraces = false) (hC : Cx p s m args meth c RL cL_law 9 ret g B0) (hX : va_X b L xs s s.heap) (hbl : b < s.heap.size) (hbA : ¬ B0 ≤ b) (hL : L ≤ 2560) {x0 m0 o0 d0 k : Nat} (hk4 : k + 4 < L) {C9 S9 : Nat} (hc : cells + 50 ≤ C9) (hs : slots + 400 ≤ S9) (hc9 : C9 ≤ room_1.cells) (hs9 : S9 ≤ room_1.slots) (K : ∀ (H : Heap) (locs : List Loc) (ls : Array Slot), lwS g B0 x0 m0 o0 d0 s H locs → lv_has ls 9 (lv5 b x0 m0 o0 d0 (nI k)) → W p l e room_1 s m args below meth c H locs C9 S9 Q (F0 m 1635 ls [])) (hLS : lwS g B0 x0 m0 o0 d0 s H locs) (hl : lv_has ls 9 (lv5 b x0 m0 o0 d0 (nI k))) : W p l e room_1 s m args below meth c H locs cells slots Q (F0 m 1544 ls []) := by
  have hx := hC.1.1
  have hb := hC.1.2.1
  have hts := hC.1.2.2.2.2
  obtain ⟨kd0, ad, σ, pd, pl, sc, o, od, hI, h3, -, rfl, rfl, rfl, rfl⟩ := hLS
  have hIv := h3.1
  have hT := h3.2.1
  have hB := h3.2.2
  have hok := hIv.1
  have hI := hI.cast fMC
  refine lv_aload_n hx hb dL_law_1544 rfl (lv_at hl 1 rfl) ?_
  refine lawArg hC hX hbl hbA hL hI hl (i0 := 0) (i5 := 5) rfl rfl 1 rfl (by omega) dL_law_1545 dL_law_1546 dL_law_1548 dL_law_1549 dL_law_1550 ?_
  refine lv_aload hx hb dL_law_1551 (lv_at hl 4 rfl) ?_
  refine r_callSH (rest := []) hl9 hC hI hl.1 (tL_freshness l g B0 ad σ pd pl sc (fM g ad σ pd kd0 (hO g o od)) od rfl (xs (k + 1)) hT hB hIv) (vx_cwSW 3 hts (goodSH wd_ml_L_168 wd_st_yL_freshness wd_in_RL wd_co_yL_freshness) rfl rfl rfl (by decide +kernel) ⟨(Nat.le_of_ble_eq_true rfl), (Nat.le_of_ble_eq_true rfl)⟩) rfl rfl (Nat.le_of_ble_eq_true rfl) dL_law_1553 ⟨by omega, by omega⟩ (fun v a9 w H locs hR hI => ?_) (fun _ _ _ _ _ _ _ z => z.elim)
  obtain ⟨rfl, ha9, o9, hH, rfl⟩ := hR; obtain rfl := ha9.symm
  have hI := hI.cast (f' := fM g ad σ pd kd0 (fC g ad σ pd pl sc (hO g o o9))) (by rw [fM_h (k := 51) (by decide), hO_51, fMC])
  refine W.eq (g2 := F0 m 1556 ls [.int (kdPR σ (xs (k + 1)))]) rfl ?_
  refine lv_istore (lv' := (6, .int (kdPR σ (xs (k + 1)))) :: lv5 b (ad 0 0) (ad 20 0) (ad 50 0) (ad 51 0) (nI k)) hx hb dL_law_1556 hl (by decide) rfl (fun ls hl => ?_)
  refine lv_aload_n hx hb dL_law_1558 rfl (lv_at hl 3 rfl) ?_
  refine lawArg hC hX hbl hbA hL hI hl (i0 := 1) (i5 := 6) rfl rfl 1 rfl (by omega) dL_law_1559 dL_law_1560 dL_law_1562 dL_law_1563 dL_law_1564 ?_
  refine r_callV (kk := 20) (ii := 0) (rest := []) hl9 hC hI hl.1 (tX7_freshness l g B0 ad σ pd kd0 (fC g ad σ pd pl sc (hO g o o9)) hok (xs (k + 1))) (cw_L_171 hts rfl rfl ⟨(Nat.le_of_ble_eq_true rfl), (Nat.le_of_ble_eq_true rfl)⟩) fM_o rfl rfl rfl rfl (Nat.le_of_ble_eq_true rfl) dL_law_1565 ⟨by omega, by omega⟩ (fun v a2 w H locs hM hI => ?_) (fun _ _ _ _ _ _ _ z => z.elim)
  obtain ⟨bb, rfl, hI, hbb⟩ : ∃ bb : UInt64, v = some (.double bb) ∧ WI g ad B0 (fM g ad σ pd (kdPR σ (xs (k + 1))) (fC g ad σ pd pl sc (hO g o o9))) s H locs ∧ (kdPR σ (xs (k + 1)) = 0 → bb = rsFR σ (xs (k + 1))) := by
    obtain ⟨ha2, hM⟩ := hM; obtain rfl := ha2.symm
    rcases hM with ⟨k0, rfl, rfl⟩ | ⟨k0, ⟨z, rfl⟩, rfl⟩
    · refine ⟨_, rfl, ?_, fun _ => rfl⟩
      rw [k0]
      exact hI
    · exact ⟨z, rfl, hI, fun z => absurd z k0⟩
  refine W.eq (g2 := F0 m 1568 ls [.double bb]) rfl ?_
  refine lv_dstore (lv' := (7, .double bb) :: (6, .int (kdPR σ (xs (k + 1)))) :: lv5 b (ad 0 0) (ad 20 0) (ad 50 0) (ad 51 0) (nI k)) hx hb dL_law_1568 hl (by decide) rfl (fun ls hl => ?_)
  refine lv_aload_n hx hb dL_law_1570 rfl (lv_at hl 4 rfl) ?_
  refine c_Vi (rest := []) hl9 hC hI hl.1 (tX7_thrown l g B0 ad σ pd (kdPR σ (xs (k + 1))) _) (cw_L_92 hts rfl rfl ⟨(Nat.le_of_ble_eq_true rfl), (Nat.le_of_ble_eq_true rfl)⟩) fM_o rfl rfl rfl rfl (Nat.le_of_ble_eq_true rfl) dL_law_1571 ⟨by omega, by omega⟩ (fun H locs hI => ?_)
  refine lv_iload hx hb dL_law_1574 (lv_at hl 1 rfl) ?_
  refine lv_icmp_eq (tgt := 1581) hx hb dL_law_1576 (by decide) (fun _ => ?_) (fun z => absurd rfl z)
  refine lv_iload hx hb dL_law_1581 (lv_at hl 1 rfl) ?_
  have J : ∀ ls : Array Slot, lv_has ls 9 ((7, .double bb) :: (6, .int (kdPR σ (xs (k + 1)))) :: lv5 b (ad 0 0) (ad 20 0) (ad 50 0) (ad 51 0) (nI k)) → W p l e room_1 s m args below meth c H locs (cells + 1 + 0) (slots + 6 + 0) Q (F0 m 1618 ls []) := fun ls hl => by
    refine lv_goto (tgt := 1635) hx hb dL_law_1618 (by decide) ?_
    refine W.widen (k := C9) (n := S9) (by omega) (by omega) ?_
    exact K H locs ls ⟨_, ad, σ, pd, pl, sc, o, o9, hI, h3, trivial, rfl, rfl, rfl, rfl⟩ (lv_sub hl [2, 3, 4, 5, 6, 7] rfl)
  refine lv_if_ne (tgt := 1618) hx hb dL_law_1583 (by decide) (fun _ => J ls hl) (fun hk => ?_)
  have e9 : o9 0 = bb := (hH hk).trans (hbb hk).symm
  refine lv_aload hx hb dL_law_1586 (lv_at hl 6 rfl) ?_
  refine lv_iconst (v := 0) hx hb dL_law_1588 (by decide) ?_
  refine r_dald (kk := 51) (ii := 0) (n := 1) (fn := o9) hC hI fC_hO51 (j := 0) rfl (by decide) (by decide) dL_law_1589 ?_
  refine lv_dload hx hb dL_law_1590 (lv_at hl 0 rfl) ?_
  rw [e9]
  refine lv_dcmp hx hb dL_law_1592 ?_
  obtain ⟨q9, hq9⟩ : ∃ z, z = Op.cmpValue (FP.dcmp bb bb) CmpOp.l := ⟨_, rfl⟩
  rw [← hq9]
  refine lv_if_eq (tgt := 1618) hx hb dL_law_1593 (by decide) (fun _ => J ls hl) (fun hz => ?_)
  refine lv_aload hx hb dL_law_1596 (lv_at hl 6 rfl) ?_
  refine lv_iconst (v := 0) hx hb dL_law_1598 (by decide) ?_
  refine r_dald (kk := 51) (ii := 0) (n := 1) (fn := o9) hC hI fC_hO51 (j := 0) rfl (by decide) (by decide) dL_law_1599 ?_
  refine lv_aload hx hb dL_law_1600 (lv_at hl 6 rfl) ?_
  refine lv_iconst (v := 0) hx hb dL_law_1602 (by decide) ?_
  refine r_dald (kk := 51) (ii := 0) (n := 1) (fn := o9) hC hI fC_hO51 (j := 0) rfl (by decide) (by decide) dL_law_1603 ?_
  rw [e9]
  refine lv_dcmp hx hb dL_law_1604 ?_
  rw [← hq9]
  refine lv_if_eq (tgt := 1616) hx hb dL_law_1605 (by decide) (fun z => absurd z hz) (fun _ => ?_)
  refine lv_dload hx hb dL_law_1608 (lv_at hl 0 rfl) ?_
  refine lv_dload hx hb dL_law_1610 (lv_at hl 0 rfl) ?_
  refine lv_dcmp hx hb dL_law_1612 ?_
  rw [← hq9]
  exact lv_if_ne (tgt := 1618) hx hb dL_law_1613 (by decide) (fun _ => J ls hl) (fun z => absurd z hz)
set_option maxHeartbeats 4000000 in
set_option maxRecDepth 100000 in
theorem cs_digest (hl9 : l.stackTraces = false) (hC : Cx p s m args meth c RL cL_law 9 ret g B0) (hX : va_X b L xs s s.heap) (hbl : b < s.heap.size) (hbA : ¬ B0 ≤ b) (hL : L ≤ 2560) {x0 m0 o0 d0 k : Nat} (hk4 : k + 4 < L) {C9 S9 : Nat} (hc : cells + 50 ≤ C9) (hs : slots + 400 ≤ S9) (hc9 : C9 ≤ room_1.cells) (hs9 : S9 ≤ room_1.slots) (K : ∀ (H : Heap) (locs : List Loc) (ls : Array Slot), lwS g B0 x0 m0 o0 d0 s H locs → lv_has ls 9 (lv5 b x0 m0 o0 d0 (nI k)) → W p l e room_1 s m args below meth c H locs C9 S9 Q (F0 m 1635 ls [])) (hLS : lwS g B0 x0 m0 o0 d0 s H locs) (hl : lv_has ls 9 (lv5 b x0 m0 o0 d0 (nI k))) : W p l e room_1 s m args below meth c H locs cells slots Q (F0 m 1621 ls []) := by
  have hx := hC.1.1
  have hb := hC.1.2.1
  have hts := hC.1.2.2.2.2
  obtain ⟨kd0, ad, σ, pd, pl, sc, o, od, hI, h3, -, rfl, rfl, rfl, rfl⟩ := hLS
  have hIv := h3.1
  have hT := h3.2.1
  have hB := h3.2.2
  have hok := hIv.1
  have hI := hI.cast fMC
  refine lv_aload_n hx hb dL_law_1621 rfl (lv_at hl 1 rfl) ?_
  refine c_Vl (kk := 0) (ii := 0) (rest := []) hl9 hC hI hl.1 (tX6_digest l g B0 ad σ pd pl sc (fM g ad σ pd kd0 (hO g o od)) hIv) (cw_L_172 hts rfl rfl ⟨(Nat.le_of_ble_eq_true rfl), (Nat.le_of_ble_eq_true rfl)⟩) fC_0 rfl rfl rfl rfl (Nat.le_of_ble_eq_true rfl) dL_law_1622 ⟨by omega, by omega⟩ (fun H locs hI => ?_)
  have hI := hI.cast (f' := fM g ad σ pd kd0 (fC g ad σ pd pl sc (hO g o od))) fMC.symm
  refine lv_aload_n hx hb dL_law_1625 rfl (lv_at hl 2 rfl) ?_
  refine c_Vlm (kk := 20) (ii := 0) (rest := [.long (dgS σ pd)]) hl9 hC hI hl.1 (tX7_digest l g B0 ad σ pd kd0 (fC g ad σ pd pl sc (hO g o od)) hok (hO_60 0)) (cw_L_175 hts rfl rfl ⟨(Nat.le_of_ble_eq_true rfl), (Nat.le_of_ble_eq_true rfl)⟩) fM_o rfl rfl rfl rfl (Nat.le_of_ble_eq_true rfl) dL_law_1626 ⟨by omega, by omega⟩ (fun H locs hI => ?_)
  refine W.lcmp hx hb dL_law_1629 ?_
  rw [lcmp_same]
  refine lv_if_eq (tgt := 1635) hx hb dL_law_1630 (by decide) (fun _ => ?_) (fun z => absurd rfl z)
  refine W.widen (k := C9) (n := S9) (by omega) (by omega) ?_
  exact K H locs ls ⟨0, ad, σ, pd, pl, sc, o, od, hI, h3, trivial, rfl, rfl, rfl, rfl⟩ hl
end LAWC
