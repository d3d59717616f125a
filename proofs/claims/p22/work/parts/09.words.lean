/-! the words that the code asks for, by their places in the tables (by program) -/
set_option maxRecDepth 50000 in
theorem aX0 : ∀ w ∈ u_ws RX0 TX0 1, w ∈ wsA := by
  intro w hw
  obtain ⟨k, hk, rfl⟩ := List.mem_map.mp hw
  have hk := List.mem_range.mp hk
  rcases (show k = 0 by omega) with rfl
  · exact wA 54 rfl rfl
set_option maxRecDepth 50000 in
theorem aX1 : ∀ w ∈ u_ws RX1 TX1 2, w ∈ wsA := by
  intro w hw
  obtain ⟨k, hk, rfl⟩ := List.mem_map.mp hw
  have hk := List.mem_range.mp hk
  rcases (show k = 0 ∨ k = 1 by omega) with rfl | rfl
  · exact wA 65 rfl rfl
  · exact wA 67 rfl rfl
set_option maxRecDepth 50000 in
theorem aX2 : ∀ w ∈ u_ws RX2 TX2 3, w ∈ wsA := by
  intro w hw
  obtain ⟨k, hk, rfl⟩ := List.mem_map.mp hw
  have hk := List.mem_range.mp hk
  rcases (show k = 0 ∨ k = 1 ∨ k = 2 by omega) with rfl | rfl | rfl
  · exact wA 39 rfl rfl
  · exact wA 41 rfl rfl
  · exact wA 43 rfl rfl
set_option maxRecDepth 50000 in
theorem aX3 : ∀ w ∈ u_ws RX3 TX3 7, w ∈ wsA := by
  intro w hw
  obtain ⟨k, hk, rfl⟩ := List.mem_map.mp hw
  have hk := List.mem_range.mp hk
  rcases (show k = 0 ∨ k = 1 ∨ k = 2 ∨ k = 3 ∨ k = 4 ∨ k = 5 ∨ k = 6 by omega) with rfl | rfl | rfl | rfl | rfl | rfl | rfl
  · exact wA 81 rfl rfl
  · exact wA 83 rfl rfl
  · exact wA 85 rfl rfl
  · exact wA 87 rfl rfl
  · exact wA 89 rfl rfl
  · exact wA 91 rfl rfl
  · exact wA 93 rfl rfl
set_option maxRecDepth 50000 in
theorem pF_X0_11 {l : Launch} {γ : Gm} {κ : Kx} {cc : ByteArray} {nL f ll : Nat} (C : Ok γ κ cc nL RX0 f ll) {ws ws' : va_W} {lv : List (Nat × Value)} {k n pc pc' a : Nat} {st : List Value} {fs : List Value} {v : Value} (d : decode cc pc = .ok (.putfield 11, 3)) (hp : pc' = pc + 3) (q0 : Nat) (he : ws[q0]? = some (a, .inr (0, fs))) (hin2 : κ.meth.name = "<init>") (hn : narrow (tyX0 0) v = v) (hfit : fits (tyX0 0) v = true) (hl : 0 < fs.length) (hws : ws.set q0 (a, .inr (0, fs.set 0 v)) = ws') (kk : G l γ κ ws' lv k n st pc') : G l γ κ ws lv k n (v :: .ref a :: st) pc := g_putF (kf := 0) C aX0 tyX0 tyX0_ok nmX0 rfl (by decide) (wA (w := Cond.fieldLink RX0 11 (TX0 0).1 (TX0 0).2.1 (TX0 0).2.2.1) 53 rfl rfl) rfl rfl (tyX0_ok 0 (by decide)) hin2 hn hfit d hp q0 he hl hws kk
set_option maxRecDepth 50000 in
theorem gf_X0_11 {l : Launch} {γ : Gm} {κ : Kx} {cc : ByteArray} {nL f ll : Nat} (C : Ok γ κ cc nL RX0 f ll) {ws : va_W} {lv : List (Nat × Value)} {k n pc pc' a : Nat} {st : List Value} {fs : List Value} {v : Value} (d : decode cc pc = .ok (.getfield 11, 3)) (hp : pc' = pc + 3) (q0 : Nat) (he : ws[q0]? = some (a, .inr (0, fs))) (hv : fs[0]? = some v) (kk : G l γ κ ws lv k n (v :: st) pc') : G l γ κ ws lv k n (.ref a :: st) pc := g_get (kf := 0) C aX0 rfl (by decide) (wA (w := Cond.fieldLink RX0 11 (TX0 0).1 (TX0 0).2.1 (TX0 0).2.2.1) 53 rfl rfl) d hp q0 he hv kk
set_option maxRecDepth 50000 in
theorem lk_X0_15 : LkS RX0 15 yX0_indexOf cX0_indexOf 4 (some .int) 4 := ⟨⟨wA 290 rfl rfl, wA 291 rfl rfl, wA 13 rfl rfl, wA 292 rfl rfl⟩, by decide +kernel, by decide +kernel, by decide +kernel⟩
set_option maxRecDepth 50000 in
theorem lk_X0_19 : LkV RX0 19 yX0_at cX0_at 5 (some .int) 4 := ⟨⟨wA 286 rfl rfl, wA 287 rfl rfl, wA 288 rfl rfl, wA 13 rfl rfl, wA 289 rfl rfl⟩, by decide +kernel, by decide +kernel, by decide +kernel⟩
set_option maxRecDepth 50000 in
theorem lk_X0_22 : LkN RX0 22 yX3_isIn RX3 cX3_isIn 2 (some .boolean) 2 := ⟨⟨by simp [exW], wA 189 rfl rfl, wA 11 rfl rfl, wA 190 rfl rfl⟩, by decide +kernel, by decide +kernel, by decide +kernel⟩
set_option maxRecDepth 50000 in
theorem lk_X0_26 : LkV RX0 26 yX0_valueOf cX0_valueOf 5 (some .int) 4 := ⟨⟨wA 282 rfl rfl, wA 283 rfl rfl, wA 284 rfl rfl, wA 13 rfl rfl, wA 285 rfl rfl⟩, by decide +kernel, by decide +kernel, by decide +kernel⟩
set_option maxRecDepth 50000 in
theorem pF_X1_9 {l : Launch} {γ : Gm} {κ : Kx} {cc : ByteArray} {nL f ll : Nat} (C : Ok γ κ cc nL RX1 f ll) {ws ws' : va_W} {lv : List (Nat × Value)} {k n pc pc' a : Nat} {st : List Value} {fs : List Value} {v : Value} (d : decode cc pc = .ok (.putfield 9, 3)) (hp : pc' = pc + 3) (q0 : Nat) (he : ws[q0]? = some (a, .inr (1, fs))) (hin2 : κ.meth.name = "<init>") (hn : narrow (tyX1 0) v = v) (hfit : fits (tyX1 0) v = true) (hl : 0 < fs.length) (hws : ws.set q0 (a, .inr (1, fs.set 0 v)) = ws') (kk : G l γ κ ws' lv k n st pc') : G l γ κ ws lv k n (v :: .ref a :: st) pc := g_putF (kf := 0) C aX1 tyX1 tyX1_ok nmX1 rfl (by decide) (wA (w := Cond.fieldLink RX1 9 (TX1 0).1 (TX1 0).2.1 (TX1 0).2.2.1) 63 rfl rfl) rfl rfl (tyX1_ok 0 (by decide)) hin2 hn hfit d hp q0 he hl hws kk
set_option maxRecDepth 50000 in
theorem pF_X1_15 {l : Launch} {γ : Gm} {κ : Kx} {cc : ByteArray} {nL f ll : Nat} (C : Ok γ κ cc nL RX1 f ll) {ws ws' : va_W} {lv : List (Nat × Value)} {k n pc pc' a : Nat} {st : List Value} {fs : List Value} {v : Value} (d : decode cc pc = .ok (.putfield 15, 3)) (hp : pc' = pc + 3) (q0 : Nat) (he : ws[q0]? = some (a, .inr (1, fs))) (hin2 : κ.meth.name = "<init>") (hn : narrow (tyX1 1) v = v) (hfit : fits (tyX1 1) v = true) (hl : 1 < fs.length) (hws : ws.set q0 (a, .inr (1, fs.set 1 v)) = ws') (kk : G l γ κ ws' lv k n st pc') : G l γ κ ws lv k n (v :: .ref a :: st) pc := g_putF (kf := 1) C aX1 tyX1 tyX1_ok nmX1 rfl (by decide) (wA (w := Cond.fieldLink RX1 15 (TX1 1).1 (TX1 1).2.1 (TX1 1).2.2.1) 64 rfl rfl) rfl rfl (tyX1_ok 1 (by decide)) hin2 hn hfit d hp q0 he hl hws kk
set_option maxRecDepth 50000 in
theorem gf_X1_9 {l : Launch} {γ : Gm} {κ : Kx} {cc : ByteArray} {nL f ll : Nat} (C : Ok γ κ cc nL RX1 f ll) {ws : va_W} {lv : List (Nat × Value)} {k n pc pc' a : Nat} {st : List Value} {fs : List Value} {v : Value} (d : decode cc pc = .ok (.getfield 9, 3)) (hp : pc' = pc + 3) (q0 : Nat) (he : ws[q0]? = some (a, .inr (1, fs))) (hv : fs[0]? = some v) (kk : G l γ κ ws lv k n (v :: st) pc') : G l γ κ ws lv k n (.ref a :: st) pc := g_get (kf := 0) C aX1 rfl (by decide) (wA (w := Cond.fieldLink RX1 9 (TX1 0).1 (TX1 0).2.1 (TX1 0).2.2.1) 63 rfl rfl) d hp q0 he hv kk
set_option maxRecDepth 50000 in
theorem gf_X1_15 {l : Launch} {γ : Gm} {κ : Kx} {cc : ByteArray} {nL f ll : Nat} (C : Ok γ κ cc nL RX1 f ll) {ws : va_W} {lv : List (Nat × Value)} {k n pc pc' a : Nat} {st : List Value} {fs : List Value} {v : Value} (d : decode cc pc = .ok (.getfield 15, 3)) (hp : pc' = pc + 3) (q0 : Nat) (he : ws[q0]? = some (a, .inr (1, fs))) (hv : fs[1]? = some v) (kk : G l γ κ ws lv k n (v :: st) pc') : G l γ κ ws lv k n (.ref a :: st) pc := g_get (kf := 1) C aX1 rfl (by decide) (wA (w := Cond.fieldLink RX1 15 (TX1 1).1 (TX1 1).2.1 (TX1 1).2.2.1) 64 rfl rfl) d hp q0 he hv kk
set_option maxRecDepth 50000 in
theorem lk_X1_18 : LkV RX1 18 yX1_totalWeight cX1_totalWeight 3 (some .int) 0 := ⟨⟨wA 409 rfl rfl, wA 410 rfl rfl, wA 411 rfl rfl, wA 14 rfl rfl, wA 412 rfl rfl⟩, by decide +kernel, by decide +kernel, by decide +kernel⟩
set_option maxRecDepth 50000 in
theorem pF_X2_9 {l : Launch} {γ : Gm} {κ : Kx} {cc : ByteArray} {nL f ll : Nat} (C : Ok γ κ cc nL RX2 f ll) {ws ws' : va_W} {lv : List (Nat × Value)} {k n pc pc' a : Nat} {st : List Value} {fs : List Value} {v : Value} (d : decode cc pc = .ok (.putfield 9, 3)) (hp : pc' = pc + 3) (q0 : Nat) (he : ws[q0]? = some (a, .inr (2, fs))) (hin2 : κ.meth.name = "<init>") (hn : narrow (tyX2 0) v = v) (hfit : fits (tyX2 0) v = true) (hl : 0 < fs.length) (hws : ws.set q0 (a, .inr (2, fs.set 0 v)) = ws') (kk : G l γ κ ws' lv k n st pc') : G l γ κ ws lv k n (v :: .ref a :: st) pc := g_putF (kf := 0) C aX2 tyX2 tyX2_ok nmX2 rfl (by decide) (wA (w := Cond.fieldLink RX2 9 (TX2 0).1 (TX2 0).2.1 (TX2 0).2.2.1) 36 rfl rfl) rfl rfl (tyX2_ok 0 (by decide)) hin2 hn hfit d hp q0 he hl hws kk
set_option maxRecDepth 50000 in
theorem pf_X2_15 {l : Launch} {γ : Gm} {κ : Kx} {cc : ByteArray} {nL f ll : Nat} (C : Ok γ κ cc nL RX2 f ll) {ws ws' : va_W} {lv : List (Nat × Value)} {k n pc pc' a : Nat} {st : List Value} {fs : List Value} {v : Value} (d : decode cc pc = .ok (.putfield 15, 3)) (hp : pc' = pc + 3) (q0 : Nat) (he : ws[q0]? = some (a, .inr (2, fs))) (hn : narrow (tyX2 1) v = v) (hfit : fits (tyX2 1) v = true) (hl : 1 < fs.length) (hws : ws.set q0 (a, .inr (2, fs.set 1 v)) = ws') (kk : G l γ κ ws' lv k n st pc') : G l γ κ ws lv k n (v :: .ref a :: st) pc := g_put (kf := 1) C aX2 tyX2 tyX2_ok nmX2 rfl (by decide) (wA (w := Cond.fieldLink RX2 15 (TX2 1).1 (TX2 1).2.1 (TX2 1).2.2.1) 37 rfl rfl) rfl (tyX2_ok 1 (by decide)) hn hfit d hp q0 he hl hws kk
set_option maxRecDepth 50000 in
theorem pf_X2_19 {l : Launch} {γ : Gm} {κ : Kx} {cc : ByteArray} {nL f ll : Nat} (C : Ok γ κ cc nL RX2 f ll) {ws ws' : va_W} {lv : List (Nat × Value)} {k n pc pc' a : Nat} {st : List Value} {fs : List Value} {v : Value} (d : decode cc pc = .ok (.putfield 19, 3)) (hp : pc' = pc + 3) (q0 : Nat) (he : ws[q0]? = some (a, .inr (2, fs))) (hn : narrow (tyX2 2) v = v) (hfit : fits (tyX2 2) v = true) (hl : 2 < fs.length) (hws : ws.set q0 (a, .inr (2, fs.set 2 v)) = ws') (kk : G l γ κ ws' lv k n st pc') : G l γ κ ws lv k n (v :: .ref a :: st) pc := g_put (kf := 2) C aX2 tyX2 tyX2_ok nmX2 rfl (by decide) (wA (w := Cond.fieldLink RX2 19 (TX2 2).1 (TX2 2).2.1 (TX2 2).2.2.1) 38 rfl rfl) rfl (tyX2_ok 2 (by decide)) hn hfit d hp q0 he hl hws kk
set_option maxRecDepth 50000 in
theorem gf_X2_15 {l : Launch} {γ : Gm} {κ : Kx} {cc : ByteArray} {nL f ll : Nat} (C : Ok γ κ cc nL RX2 f ll) {ws : va_W} {lv : List (Nat × Value)} {k n pc pc' a : Nat} {st : List Value} {fs : List Value} {v : Value} (d : decode cc pc = .ok (.getfield 15, 3)) (hp : pc' = pc + 3) (q0 : Nat) (he : ws[q0]? = some (a, .inr (2, fs))) (hv : fs[1]? = some v) (kk : G l γ κ ws lv k n (v :: st) pc') : G l γ κ ws lv k n (.ref a :: st) pc := g_get (kf := 1) C aX2 rfl (by decide) (wA (w := Cond.fieldLink RX2 15 (TX2 1).1 (TX2 1).2.1 (TX2 1).2.2.1) 37 rfl rfl) d hp q0 he hv kk
set_option maxRecDepth 50000 in
theorem gf_X2_19 {l : Launch} {γ : Gm} {κ : Kx} {cc : ByteArray} {nL f ll : Nat} (C : Ok γ κ cc nL RX2 f ll) {ws : va_W} {lv : List (Nat × Value)} {k n pc pc' a : Nat} {st : List Value} {fs : List Value} {v : Value} (d : decode cc pc = .ok (.getfield 19, 3)) (hp : pc' = pc + 3) (q0 : Nat) (he : ws[q0]? = some (a, .inr (2, fs))) (hv : fs[2]? = some v) (kk : G l γ κ ws lv k n (v :: st) pc') : G l γ κ ws lv k n (.ref a :: st) pc := g_get (kf := 2) C aX2 rfl (by decide) (wA (w := Cond.fieldLink RX2 19 (TX2 2).1 (TX2 2).2.1 (TX2 2).2.2.1) 38 rfl rfl) d hp q0 he hv kk
set_option maxRecDepth 50000 in
theorem lk_X2_22 : LkN RX2 22 yX3_isIn RX3 cX3_isIn 2 (some .boolean) 2 := ⟨⟨by simp [exW], wA 189 rfl rfl, wA 11 rfl rfl, wA 190 rfl rfl⟩, by decide +kernel, by decide +kernel, by decide +kernel⟩
set_option maxRecDepth 50000 in
theorem gf_X2_9 {l : Launch} {γ : Gm} {κ : Kx} {cc : ByteArray} {nL f ll : Nat} (C : Ok γ κ cc nL RX2 f ll) {ws : va_W} {lv : List (Nat × Value)} {k n pc pc' a : Nat} {st : List Value} {fs : List Value} {v : Value} (d : decode cc pc = .ok (.getfield 9, 3)) (hp : pc' = pc + 3) (q0 : Nat) (he : ws[q0]? = some (a, .inr (2, fs))) (hv : fs[0]? = some v) (kk : G l γ κ ws lv k n (v :: st) pc') : G l γ κ ws lv k n (.ref a :: st) pc := g_get (kf := 0) C aX2 rfl (by decide) (wA (w := Cond.fieldLink RX2 9 (TX2 0).1 (TX2 0).2.1 (TX2 0).2.2.1) 36 rfl rfl) d hp q0 he hv kk
set_option maxRecDepth 50000 in
theorem lk_X3_11 : LkIN RX3 11 yX2_init RX3 cX2_init 1 0 := ⟨⟨by simp [exW], wA 33 rfl rfl, wA 12 rfl rfl, wA 34 rfl rfl⟩, by decide +kernel, by decide +kernel, by decide +kernel⟩
set_option maxRecDepth 50000 in
theorem pF_X3_12 {l : Launch} {γ : Gm} {κ : Kx} {cc : ByteArray} {nL f ll : Nat} (C : Ok γ κ cc nL RX3 f ll) {ws ws' : va_W} {lv : List (Nat × Value)} {k n pc pc' a : Nat} {st : List Value} {fs : List Value} {v : Value} (d : decode cc pc = .ok (.putfield 12, 3)) (hp : pc' = pc + 3) (q0 : Nat) (he : ws[q0]? = some (a, .inr (3, fs))) (hin2 : κ.meth.name = "<init>") (hn : narrow (tyX3 0) v = v) (hfit : fits (tyX3 0) v = true) (hl : 0 < fs.length) (hws : ws.set q0 (a, .inr (3, fs.set 0 v)) = ws') (kk : G l γ κ ws' lv k n st pc') : G l γ κ ws lv k n (v :: .ref a :: st) pc := g_putF (kf := 0) C aX3 tyX3 tyX3_ok nmX3 rfl (by decide) (wA (w := Cond.fieldLink RX3 12 (TX3 0).1 (TX3 0).2.1 (TX3 0).2.2.1) 74 rfl rfl) rfl rfl (tyX3_ok 0 (by decide)) hin2 hn hfit d hp q0 he hl hws kk
set_option maxRecDepth 50000 in
theorem lk_X3_18 : LkIN RX3 18 yX0_init RX3 cX0_init 1 0 := ⟨⟨by simp [exW], wA 50 rfl rfl, wA 13 rfl rfl, wA 51 rfl rfl⟩, by decide +kernel, by decide +kernel, by decide +kernel⟩
set_option maxRecDepth 50000 in
theorem pF_X3_19 {l : Launch} {γ : Gm} {κ : Kx} {cc : ByteArray} {nL f ll : Nat} (C : Ok γ κ cc nL RX3 f ll) {ws ws' : va_W} {lv : List (Nat × Value)} {k n pc pc' a : Nat} {st : List Value} {fs : List Value} {v : Value} (d : decode cc pc = .ok (.putfield 19, 3)) (hp : pc' = pc + 3) (q0 : Nat) (he : ws[q0]? = some (a, .inr (3, fs))) (hin2 : κ.meth.name = "<init>") (hn : narrow (tyX3 1) v = v) (hfit : fits (tyX3 1) v = true) (hl : 1 < fs.length) (hws : ws.set q0 (a, .inr (3, fs.set 1 v)) = ws') (kk : G l γ κ ws' lv k n st pc') : G l γ κ ws lv k n (v :: .ref a :: st) pc := g_putF (kf := 1) C aX3 tyX3 tyX3_ok nmX3 rfl (by decide) (wA (w := Cond.fieldLink RX3 19 (TX3 1).1 (TX3 1).2.1 (TX3 1).2.2.1) 75 rfl rfl) rfl rfl (tyX3_ok 1 (by decide)) hin2 hn hfit d hp q0 he hl hws kk
set_option maxRecDepth 50000 in
theorem pF_X3_23 {l : Launch} {γ : Gm} {κ : Kx} {cc : ByteArray} {nL f ll : Nat} (C : Ok γ κ cc nL RX3 f ll) {ws ws' : va_W} {lv : List (Nat × Value)} {k n pc pc' a : Nat} {st : List Value} {fs : List Value} {v : Value} (d : decode cc pc = .ok (.putfield 23, 3)) (hp : pc' = pc + 3) (q0 : Nat) (he : ws[q0]? = some (a, .inr (3, fs))) (hin2 : κ.meth.name = "<init>") (hn : narrow (tyX3 2) v = v) (hfit : fits (tyX3 2) v = true) (hl : 2 < fs.length) (hws : ws.set q0 (a, .inr (3, fs.set 2 v)) = ws') (kk : G l γ κ ws' lv k n st pc') : G l γ κ ws lv k n (v :: .ref a :: st) pc := g_putF (kf := 2) C aX3 tyX3 tyX3_ok nmX3 rfl (by decide) (wA (w := Cond.fieldLink RX3 23 (TX3 2).1 (TX3 2).2.1 (TX3 2).2.2.1) 76 rfl rfl) rfl rfl (tyX3_ok 2 (by decide)) hin2 hn hfit d hp q0 he hl hws kk
set_option maxRecDepth 50000 in
theorem pF_X3_27 {l : Launch} {γ : Gm} {κ : Kx} {cc : ByteArray} {nL f ll : Nat} (C : Ok γ κ cc nL RX3 f ll) {ws ws' : va_W} {lv : List (Nat × Value)} {k n pc pc' a : Nat} {st : List Value} {fs : List Value} {v : Value} (d : decode cc pc = .ok (.putfield 27, 3)) (hp : pc' = pc + 3) (q0 : Nat) (he : ws[q0]? = some (a, .inr (3, fs))) (hin2 : κ.meth.name = "<init>") (hn : narrow (tyX3 3) v = v) (hfit : fits (tyX3 3) v = true) (hl : 3 < fs.length) (hws : ws.set q0 (a, .inr (3, fs.set 3 v)) = ws') (kk : G l γ κ ws' lv k n st pc') : G l γ κ ws lv k n (v :: .ref a :: st) pc := g_putF (kf := 3) C aX3 tyX3 tyX3_ok nmX3 rfl (by decide) (wA (w := Cond.fieldLink RX3 27 (TX3 3).1 (TX3 3).2.1 (TX3 3).2.2.1) 77 rfl rfl) rfl rfl (tyX3_ok 3 (by decide)) hin2 hn hfit d hp q0 he hl hws kk
set_option maxRecDepth 50000 in
theorem lk_X3_32 : LkIN RX3 32 yX1_init RX3 cX1_init 1 0 := ⟨⟨by simp [exW], wA 60 rfl rfl, wA 14 rfl rfl, wA 61 rfl rfl⟩, by decide +kernel, by decide +kernel, by decide +kernel⟩
set_option maxRecDepth 50000 in
theorem pF_X3_33 {l : Launch} {γ : Gm} {κ : Kx} {cc : ByteArray} {nL f ll : Nat} (C : Ok γ κ cc nL RX3 f ll) {ws ws' : va_W} {lv : List (Nat × Value)} {k n pc pc' a : Nat} {st : List Value} {fs : List Value} {v : Value} (d : decode cc pc = .ok (.putfield 33, 3)) (hp : pc' = pc + 3) (q0 : Nat) (he : ws[q0]? = some (a, .inr (3, fs))) (hin2 : κ.meth.name = "<init>") (hn : narrow (tyX3 4) v = v) (hfit : fits (tyX3 4) v = true) (hl : 4 < fs.length) (hws : ws.set q0 (a, .inr (3, fs.set 4 v)) = ws') (kk : G l γ κ ws' lv k n st pc') : G l γ κ ws lv k n (v :: .ref a :: st) pc := g_putF (kf := 4) C aX3 tyX3 tyX3_ok nmX3 rfl (by decide) (wA (w := Cond.fieldLink RX3 33 (TX3 4).1 (TX3 4).2.1 (TX3 4).2.2.1) 78 rfl rfl) rfl rfl (tyX3_ok 4 (by decide)) hin2 hn hfit d hp q0 he hl hws kk
set_option maxRecDepth 50000 in
theorem pF_X3_37 {l : Launch} {γ : Gm} {κ : Kx} {cc : ByteArray} {nL f ll : Nat} (C : Ok γ κ cc nL RX3 f ll) {ws ws' : va_W} {lv : List (Nat × Value)} {k n pc pc' a : Nat} {st : List Value} {fs : List Value} {v : Value} (d : decode cc pc = .ok (.putfield 37, 3)) (hp : pc' = pc + 3) (q0 : Nat) (he : ws[q0]? = some (a, .inr (3, fs))) (hin2 : κ.meth.name = "<init>") (hn : narrow (tyX3 5) v = v) (hfit : fits (tyX3 5) v = true) (hl : 5 < fs.length) (hws : ws.set q0 (a, .inr (3, fs.set 5 v)) = ws') (kk : G l γ κ ws' lv k n st pc') : G l γ κ ws lv k n (v :: .ref a :: st) pc := g_putF (kf := 5) C aX3 tyX3 tyX3_ok nmX3 rfl (by decide) (wA (w := Cond.fieldLink RX3 37 (TX3 5).1 (TX3 5).2.1 (TX3 5).2.2.1) 79 rfl rfl) rfl rfl (tyX3_ok 5 (by decide)) hin2 hn hfit d hp q0 he hl hws kk
set_option maxRecDepth 50000 in
theorem pf_X3_40 {l : Launch} {γ : Gm} {κ : Kx} {cc : ByteArray} {nL f ll : Nat} (C : Ok γ κ cc nL RX3 f ll) {ws ws' : va_W} {lv : List (Nat × Value)} {k n pc pc' a : Nat} {st : List Value} {fs : List Value} {v : Value} (d : decode cc pc = .ok (.putfield 40, 3)) (hp : pc' = pc + 3) (q0 : Nat) (he : ws[q0]? = some (a, .inr (3, fs))) (hn : narrow (tyX3 6) v = v) (hfit : fits (tyX3 6) v = true) (hl : 6 < fs.length) (hws : ws.set q0 (a, .inr (3, fs.set 6 v)) = ws') (kk : G l γ κ ws' lv k n st pc') : G l γ κ ws lv k n (v :: .ref a :: st) pc := g_put (kf := 6) C aX3 tyX3 tyX3_ok nmX3 rfl (by decide) (wA (w := Cond.fieldLink RX3 40 (TX3 6).1 (TX3 6).2.1 (TX3 6).2.2.1) 80 rfl rfl) rfl (tyX3_ok 6 (by decide)) hn hfit d hp q0 he hl hws kk
set_option maxRecDepth 50000 in
theorem gf_X3_33 {l : Launch} {γ : Gm} {κ : Kx} {cc : ByteArray} {nL f ll : Nat} (C : Ok γ κ cc nL RX3 f ll) {ws : va_W} {lv : List (Nat × Value)} {k n pc pc' a : Nat} {st : List Value} {fs : List Value} {v : Value} (d : decode cc pc = .ok (.getfield 33, 3)) (hp : pc' = pc + 3) (q0 : Nat) (he : ws[q0]? = some (a, .inr (3, fs))) (hv : fs[4]? = some v) (kk : G l γ κ ws lv k n (v :: st) pc') : G l γ κ ws lv k n (.ref a :: st) pc := g_get (kf := 4) C aX3 rfl (by decide) (wA (w := Cond.fieldLink RX3 33 (TX3 4).1 (TX3 4).2.1 (TX3 4).2.2.1) 78 rfl rfl) d hp q0 he hv kk
set_option maxRecDepth 50000 in
theorem lk_X3_44 : LkV RX3 44 yX1_weigh cX1_weigh 4 (some .int) 2 := ⟨⟨wA 70 rfl rfl, wA 71 rfl rfl, wA 72 rfl rfl, wA 14 rfl rfl, wA 73 rfl rfl⟩, by decide +kernel, by decide +kernel, by decide +kernel⟩
set_option maxRecDepth 50000 in
theorem lk_X3_48 : LkV RX3 48 yX3_checkPlace cX3_checkPlace 2 none 1 := ⟨⟨wA 108 rfl rfl, wA 110 rfl rfl, wA 0 rfl rfl, wA 11 rfl rfl, wA 111 rfl rfl⟩, by decide +kernel, by decide +kernel, by decide +kernel⟩
set_option maxRecDepth 50000 in
theorem gf_X3_12 {l : Launch} {γ : Gm} {κ : Kx} {cc : ByteArray} {nL f ll : Nat} (C : Ok γ κ cc nL RX3 f ll) {ws : va_W} {lv : List (Nat × Value)} {k n pc pc' a : Nat} {st : List Value} {fs : List Value} {v : Value} (d : decode cc pc = .ok (.getfield 12, 3)) (hp : pc' = pc + 3) (q0 : Nat) (he : ws[q0]? = some (a, .inr (3, fs))) (hv : fs[0]? = some v) (kk : G l γ κ ws lv k n (v :: st) pc') : G l γ κ ws lv k n (.ref a :: st) pc := g_get (kf := 0) C aX3 rfl (by decide) (wA (w := Cond.fieldLink RX3 12 (TX3 0).1 (TX3 0).2.1 (TX3 0).2.2.1) 74 rfl rfl) d hp q0 he hv kk
set_option maxRecDepth 50000 in
theorem lk_X3_52 : LkV RX3 52 yX2_isFull cX2_isFull 1 (some .boolean) 0 := ⟨⟨wA 338 rfl rfl, wA 339 rfl rfl, wA 340 rfl rfl, wA 12 rfl rfl, wA 341 rfl rfl⟩, by decide +kernel, by decide +kernel, by decide +kernel⟩
set_option maxRecDepth 50000 in
theorem lk_X3_63 : LkV RX3 63 yX2_isLeaf cX2_isLeaf 2 (some .boolean) 1 := ⟨⟨wA 203 rfl rfl, wA 204 rfl rfl, wA 205 rfl rfl, wA 12 rfl rfl, wA 206 rfl rfl⟩, by decide +kernel, by decide +kernel, by decide +kernel⟩
set_option maxRecDepth 50000 in
theorem lk_X3_67 : LkV RX3 67 yX3_isInUse cX3_isInUse 4 (some .boolean) 1 := ⟨⟨wA 343 rfl rfl, wA 345 rfl rfl, wA 4 rfl rfl, wA 11 rfl rfl, wA 346 rfl rfl⟩, by decide +kernel, by decide +kernel, by decide +kernel⟩
set_option maxRecDepth 50000 in
theorem lk_X3_72 : LkV RX3 72 yX2_addBelow cX2_addBelow 3 (some .int) 1 := ⟨⟨wA 352 rfl rfl, wA 353 rfl rfl, wA 354 rfl rfl, wA 12 rfl rfl, wA 355 rfl rfl⟩, by decide +kernel, by decide +kernel, by decide +kernel⟩
set_option maxRecDepth 50000 in
theorem lk_X3_76 : LkV RX3 76 yX2_size cX2_size 1 (some .int) 0 := ⟨⟨wA 100 rfl rfl, wA 101 rfl rfl, wA 102 rfl rfl, wA 12 rfl rfl, wA 103 rfl rfl⟩, by decide +kernel, by decide +kernel, by decide +kernel⟩
set_option maxRecDepth 50000 in
theorem lk_X3_80 : LkV RX3 80 yX2_leavesBelow cX2_leavesBelow 4 (some .int) 1 := ⟨⟨wA 184 rfl rfl, wA 185 rfl rfl, wA 186 rfl rfl, wA 12 rfl rfl, wA 187 rfl rfl⟩, by decide +kernel, by decide +kernel, by decide +kernel⟩
set_option maxRecDepth 50000 in
theorem lk_X3_83 : LkS RX3 83 yX3_checkVersion cX3_checkVersion 1 none 1 := ⟨⟨wA 250 rfl rfl, wA 251 rfl rfl, wA 11 rfl rfl, wA 252 rfl rfl⟩, by decide +kernel, by decide +kernel, by decide +kernel⟩
set_option maxRecDepth 50000 in
theorem lk_X3_86 : LkS RX3 86 yX3_checkCellAccount cX3_checkCellAccount 1 none 1 := ⟨⟨wA 363 rfl rfl, wA 364 rfl rfl, wA 11 rfl rfl, wA 365 rfl rfl⟩, by decide +kernel, by decide +kernel, by decide +kernel⟩
set_option maxRecDepth 50000 in
theorem lk_X3_89 : LkS RX3 89 yX3_checkMonth cX3_checkMonth 1 none 1 := ⟨⟨wA 195 rfl rfl, wA 196 rfl rfl, wA 11 rfl rfl, wA 197 rfl rfl⟩, by decide +kernel, by decide +kernel, by decide +kernel⟩
set_option maxRecDepth 50000 in
theorem lk_X3_92 : LkS RX3 92 yX3_mostOf cX3_mostOf 1 (some .int) 1 := ⟨⟨wA 367 rfl rfl, wA 368 rfl rfl, wA 11 rfl rfl, wA 369 rfl rfl⟩, by decide +kernel, by decide +kernel, by decide +kernel⟩
set_option maxRecDepth 50000 in
theorem lk_X3_95 : LkS RX3 95 yX3_checkUpTo cX3_checkUpTo 2 none 2 := ⟨⟨wA 227 rfl rfl, wA 228 rfl rfl, wA 11 rfl rfl, wA 229 rfl rfl⟩, by decide +kernel, by decide +kernel, by decide +kernel⟩
set_option maxRecDepth 50000 in
theorem lk_X3_99 : LkV RX3 99 yX3_checkLeaf cX3_checkLeaf 2 none 1 := ⟨⟨wA 199 rfl rfl, wA 201 rfl rfl, wA 2 rfl rfl, wA 11 rfl rfl, wA 202 rfl rfl⟩, by decide +kernel, by decide +kernel, by decide +kernel⟩
set_option maxRecDepth 50000 in
theorem gf_X3_27 {l : Launch} {γ : Gm} {κ : Kx} {cc : ByteArray} {nL f ll : Nat} (C : Ok γ κ cc nL RX3 f ll) {ws : va_W} {lv : List (Nat × Value)} {k n pc pc' a : Nat} {st : List Value} {fs : List Value} {v : Value} (d : decode cc pc = .ok (.getfield 27, 3)) (hp : pc' = pc + 3) (q0 : Nat) (he : ws[q0]? = some (a, .inr (3, fs))) (hv : fs[3]? = some v) (kk : G l γ κ ws lv k n (v :: st) pc') : G l γ κ ws lv k n (.ref a :: st) pc := g_get (kf := 3) C aX3 rfl (by decide) (wA (w := Cond.fieldLink RX3 27 (TX3 3).1 (TX3 3).2.1 (TX3 3).2.2.1) 77 rfl rfl) d hp q0 he hv kk
set_option maxRecDepth 50000 in
theorem lk_X3_102 : LkS RX3 102 yX3_isIn cX3_isIn 2 (some .boolean) 2 := ⟨⟨wA 313 rfl rfl, wA 189 rfl rfl, wA 11 rfl rfl, wA 190 rfl rfl⟩, by decide +kernel, by decide +kernel, by decide +kernel⟩
set_option maxRecDepth 50000 in
theorem gf_X3_19 {l : Launch} {γ : Gm} {κ : Kx} {cc : ByteArray} {nL f ll : Nat} (C : Ok γ κ cc nL RX3 f ll) {ws : va_W} {lv : List (Nat × Value)} {k n pc pc' a : Nat} {st : List Value} {fs : List Value} {v : Value} (d : decode cc pc = .ok (.getfield 19, 3)) (hp : pc' = pc + 3) (q0 : Nat) (he : ws[q0]? = some (a, .inr (3, fs))) (hv : fs[1]? = some v) (kk : G l γ κ ws lv k n (v :: st) pc') : G l γ κ ws lv k n (.ref a :: st) pc := g_get (kf := 1) C aX3 rfl (by decide) (wA (w := Cond.fieldLink RX3 19 (TX3 1).1 (TX3 1).2.1 (TX3 1).2.2.1) 75 rfl rfl) d hp q0 he hv kk
set_option maxRecDepth 50000 in
theorem lk_X3_108 : LkV RX3 108 yX0_put cX0_put 8 (some .int) 5 := ⟨⟨wA 372 rfl rfl, wA 373 rfl rfl, wA 374 rfl rfl, wA 13 rfl rfl, wA 375 rfl rfl⟩, by decide +kernel, by decide +kernel, by decide +kernel⟩
set_option maxRecDepth 50000 in
theorem gf_X3_23 {l : Launch} {γ : Gm} {κ : Kx} {cc : ByteArray} {nL f ll : Nat} (C : Ok γ κ cc nL RX3 f ll) {ws : va_W} {lv : List (Nat × Value)} {k n pc pc' a : Nat} {st : List Value} {fs : List Value} {v : Value} (d : decode cc pc = .ok (.getfield 23, 3)) (hp : pc' = pc + 3) (q0 : Nat) (he : ws[q0]? = some (a, .inr (3, fs))) (hv : fs[2]? = some v) (kk : G l γ κ ws lv k n (v :: st) pc') : G l γ κ ws lv k n (.ref a :: st) pc := g_get (kf := 2) C aX3 rfl (by decide) (wA (w := Cond.fieldLink RX3 23 (TX3 2).1 (TX3 2).2.1 (TX3 2).2.2.1) 76 rfl rfl) d hp q0 he hv kk
set_option maxRecDepth 50000 in
theorem k_X3_112 : Cond.constant RX3 112 1000000 ∈ wsA := wA 370 rfl rfl
set_option maxRecDepth 50000 in
theorem lk_X3_113 : LkV RX3 113 yX3_checkSpreadable cX3_checkSpreadable 5 none 4 := ⟨⟨wA 383 rfl rfl, wA 385 rfl rfl, wA 5 rfl rfl, wA 11 rfl rfl, wA 386 rfl rfl⟩, by decide +kernel, by decide +kernel, by decide +kernel⟩
set_option maxRecDepth 50000 in
theorem lk_X3_117 : LkV RX3 117 yX3_spreadOver cX3_spreadOver 11 (some .int) 5 := ⟨⟨wA 397 rfl rfl, wA 399 rfl rfl, wA 8 rfl rfl, wA 11 rfl rfl, wA 400 rfl rfl⟩, by decide +kernel, by decide +kernel, by decide +kernel⟩
set_option maxRecDepth 50000 in
theorem lk_X3_120 : LkV RX3 120 yX1_totalWeight cX1_totalWeight 3 (some .int) 0 := ⟨⟨wA 424 rfl rfl, wA 410 rfl rfl, wA 411 rfl rfl, wA 14 rfl rfl, wA 412 rfl rfl⟩, by decide +kernel, by decide +kernel, by decide +kernel⟩
set_option maxRecDepth 50000 in
theorem lk_X3_125 : LkV RX3 125 yX1_divide cX1_divide 5 none 1 := ⟨⟨wA 405 rfl rfl, wA 406 rfl rfl, wA 407 rfl rfl, wA 14 rfl rfl, wA 408 rfl rfl⟩, by decide +kernel, by decide +kernel, by decide +kernel⟩
set_option maxRecDepth 50000 in
theorem lk_X3_128 : LkV RX3 128 yX1_shareOf cX1_shareOf 2 (some .int) 1 := ⟨⟨wA 413 rfl rfl, wA 414 rfl rfl, wA 415 rfl rfl, wA 14 rfl rfl, wA 416 rfl rfl⟩, by decide +kernel, by decide +kernel, by decide +kernel⟩
set_option maxRecDepth 50000 in
theorem lk_X3_138 : LkV RX3 138 yX0_copyLayer cX0_copyLayer 7 (some .int) 2 := ⟨⟨wA 435 rfl rfl, wA 436 rfl rfl, wA 437 rfl rfl, wA 13 rfl rfl, wA 438 rfl rfl⟩, by decide +kernel, by decide +kernel, by decide +kernel⟩
set_option maxRecDepth 50000 in
theorem lk_X3_141 : LkS RX3 141 yJ6_bitCount_0f7a4 cJ6_bitCount_0f7a4 1 (some .int) 1 := ⟨⟨wA 254 rfl rfl, wA 255 rfl rfl, wA 21 rfl rfl, wA 256 rfl rfl⟩, by decide +kernel, by decide +kernel, by decide +kernel⟩
set_option maxRecDepth 50000 in
theorem gf_X3_40 {l : Launch} {γ : Gm} {κ : Kx} {cc : ByteArray} {nL f ll : Nat} (C : Ok γ κ cc nL RX3 f ll) {ws : va_W} {lv : List (Nat × Value)} {k n pc pc' a : Nat} {st : List Value} {fs : List Value} {v : Value} (d : decode cc pc = .ok (.getfield 40, 3)) (hp : pc' = pc + 3) (q0 : Nat) (he : ws[q0]? = some (a, .inr (3, fs))) (hv : fs[6]? = some v) (kk : G l γ κ ws lv k n (v :: st) pc') : G l γ κ ws lv k n (.ref a :: st) pc := g_get (kf := 6) C aX3 rfl (by decide) (wA (w := Cond.fieldLink RX3 40 (TX3 6).1 (TX3 6).2.1 (TX3 6).2.2.1) 80 rfl rfl) d hp q0 he hv kk
set_option maxRecDepth 50000 in
theorem lk_X3_148 : LkS RX3 148 yX3_checkAccount cX3_checkAccount 1 none 1 := ⟨⟨wA 273 rfl rfl, wA 274 rfl rfl, wA 11 rfl rfl, wA 275 rfl rfl⟩, by decide +kernel, by decide +kernel, by decide +kernel⟩
set_option maxRecDepth 50000 in
theorem lk_X3_151 : LkV RX3 151 yX0_sumOver cX0_sumOver 7 (some .int) 4 := ⟨⟨wA 277 rfl rfl, wA 278 rfl rfl, wA 279 rfl rfl, wA 13 rfl rfl, wA 280 rfl rfl⟩, by decide +kernel, by decide +kernel, by decide +kernel⟩
set_option maxRecDepth 50000 in
theorem lk_X3_155 : LkV RX3 155 yX0_yearOf cX0_yearOf 6 (some .int) 3 := ⟨⟨wA 453 rfl rfl, wA 454 rfl rfl, wA 455 rfl rfl, wA 13 rfl rfl, wA 456 rfl rfl⟩, by decide +kernel, by decide +kernel, by decide +kernel⟩
set_option maxRecDepth 50000 in
theorem lk_X3_159 : LkV RX3 159 yX0_countFilled cX0_countFilled 3 (some .int) 0 := ⟨⟨wA 305 rfl rfl, wA 306 rfl rfl, wA 307 rfl rfl, wA 13 rfl rfl, wA 308 rfl rfl⟩, by decide +kernel, by decide +kernel, by decide +kernel⟩
set_option maxRecDepth 50000 in
theorem lk_X3_162 : LkV RX3 162 yX3_gapOfLeaf cX3_gapOfLeaf 11 (some .int) 4 := ⟨⟨wA 314 rfl rfl, wA 316 rfl rfl, wA 3 rfl rfl, wA 11 rfl rfl, wA 317 rfl rfl⟩, by decide +kernel, by decide +kernel, by decide +kernel⟩
set_option maxRecDepth 50000 in
theorem lk_X3_165 : LkV RX3 165 yX0_at cX0_at 5 (some .int) 4 := ⟨⟨wA 318 rfl rfl, wA 287 rfl rfl, wA 288 rfl rfl, wA 13 rfl rfl, wA 289 rfl rfl⟩, by decide +kernel, by decide +kernel, by decide +kernel⟩
set_option maxRecDepth 50000 in
theorem lk_X3_168 : LkS RX3 168 yX3_gapPart cX3_gapPart 5 (some .int) 5 := ⟨⟨wA 319 rfl rfl, wA 320 rfl rfl, wA 11 rfl rfl, wA 321 rfl rfl⟩, by decide +kernel, by decide +kernel, by decide +kernel⟩
set_option maxRecDepth 50000 in
theorem lk_X3_171 : LkV RX3 171 yX0_isBlank cX0_isBlank 4 (some .boolean) 1 := ⟨⟨wA 347 rfl rfl, wA 348 rfl rfl, wA 349 rfl rfl, wA 13 rfl rfl, wA 350 rfl rfl⟩, by decide +kernel, by decide +kernel, by decide +kernel⟩
set_option maxRecDepth 50000 in
theorem lk_X3_174 : LkV RX3 174 yX3_freeAmong cX3_freeAmong 4 (some .int) 3 := ⟨⟨wA 387 rfl rfl, wA 389 rfl rfl, wA 6 rfl rfl, wA 11 rfl rfl, wA 390 rfl rfl⟩, by decide +kernel, by decide +kernel, by decide +kernel⟩
set_option maxRecDepth 50000 in
theorem lk_X3_179 : LkV RX3 179 yX3_restOf cX3_restOf 6 (some .int) 4 := ⟨⟨wA 392 rfl rfl, wA 394 rfl rfl, wA 7 rfl rfl, wA 11 rfl rfl, wA 395 rfl rfl⟩, by decide +kernel, by decide +kernel, by decide +kernel⟩
set_option maxRecDepth 50000 in
theorem lk_X3_184 : LkV RX3 184 yX3_weighLeaves cX3_weighLeaves 8 none 4 := ⟨⟨wA 401 rfl rfl, wA 403 rfl rfl, wA 9 rfl rfl, wA 11 rfl rfl, wA 404 rfl rfl⟩, by decide +kernel, by decide +kernel, by decide +kernel⟩
set_option maxRecDepth 50000 in
theorem gf_X3_37 {l : Launch} {γ : Gm} {κ : Kx} {cc : ByteArray} {nL f ll : Nat} (C : Ok γ κ cc nL RX3 f ll) {ws : va_W} {lv : List (Nat × Value)} {k n pc pc' a : Nat} {st : List Value} {fs : List Value} {v : Value} (d : decode cc pc = .ok (.getfield 37, 3)) (hp : pc' = pc + 3) (q0 : Nat) (he : ws[q0]? = some (a, .inr (3, fs))) (hv : fs[5]? = some v) (kk : G l γ κ ws lv k n (v :: st) pc') : G l γ κ ws lv k n (.ref a :: st) pc := g_get (kf := 5) C aX3 rfl (by decide) (wA (w := Cond.fieldLink RX3 37 (TX3 5).1 (TX3 5).2.1 (TX3 5).2.2.1) 79 rfl rfl) d hp q0 he hv kk
set_option maxRecDepth 50000 in
theorem lk_X3_192 : LkV RX3 192 yX2_has cX2_has 2 (some .boolean) 1 := ⟨⟨wA 112 rfl rfl, wA 113 rfl rfl, wA 114 rfl rfl, wA 12 rfl rfl, wA 115 rfl rfl⟩, by decide +kernel, by decide +kernel, by decide +kernel⟩
set_option maxRecDepth 50000 in
theorem k_J6_265 : Cond.constant RJ6 265 1431655765 ∈ wsA := wA 257 rfl rfl
set_option maxRecDepth 50000 in
theorem k_J6_266 : Cond.constant RJ6 266 858993459 ∈ wsA := wA 258 rfl rfl
set_option maxRecDepth 50000 in
theorem k_J6_267 : Cond.constant RJ6 267 252645135 ∈ wsA := wA 259 rfl rfl
set_option maxRecDepth 50000 in
theorem k_L_7 : Cond.constant RL 7 2147483647 ∈ wsA := wA 325 rfl rfl
set_option maxRecDepth 50000 in
theorem k_L_8 : Cond.constant RL 8 40503 ∈ wsA := wA 329 rfl rfl
set_option maxRecDepth 50000 in
theorem lk_L_9 : LkV RL 9 yX3_addPlace cX3_addPlace 2 (some .int) 1 := ⟨⟨wA 334 rfl rfl, wA 335 rfl rfl, wA 336 rfl rfl, wA 11 rfl rfl, wA 337 rfl rfl⟩, by decide +kernel, by decide +kernel, by decide +kernel⟩
set_option maxRecDepth 50000 in
theorem lk_L_17 : LkV RL 17 yX3_set cX3_set 6 (some .int) 5 := ⟨⟨wA 359 rfl rfl, wA 360 rfl rfl, wA 361 rfl rfl, wA 11 rfl rfl, wA 362 rfl rfl⟩, by decide +kernel, by decide +kernel, by decide +kernel⟩
set_option maxRecDepth 50000 in
theorem lk_L_21 : LkV RL 21 yX3_spread cX3_spread 7 (some .int) 5 := ⟨⟨wA 379 rfl rfl, wA 380 rfl rfl, wA 381 rfl rfl, wA 11 rfl rfl, wA 382 rfl rfl⟩, by decide +kernel, by decide +kernel, by decide +kernel⟩
set_option maxRecDepth 50000 in
theorem lk_L_24 : LkV RL 24 yX3_spreadYear cX3_spreadYear 7 (some .int) 3 := ⟨⟨wA 420 rfl rfl, wA 421 rfl rfl, wA 422 rfl rfl, wA 11 rfl rfl, wA 423 rfl rfl⟩, by decide +kernel, by decide +kernel, by decide +kernel⟩
set_option maxRecDepth 50000 in
theorem lk_L_28 : LkV RL 28 yX3_copy cX3_copy 3 (some .int) 2 := ⟨⟨wA 429 rfl rfl, wA 430 rfl rfl, wA 431 rfl rfl, wA 11 rfl rfl, wA 432 rfl rfl⟩, by decide +kernel, by decide +kernel, by decide +kernel⟩
set_option maxRecDepth 50000 in
theorem lk_L_32 : LkV RL 32 yX3_see cX3_see 5 (some .int) 4 := ⟨⟨wA 442 rfl rfl, wA 443 rfl rfl, wA 444 rfl rfl, wA 11 rfl rfl, wA 445 rfl rfl⟩, by decide +kernel, by decide +kernel, by decide +kernel⟩
set_option maxRecDepth 50000 in
theorem lk_L_36 : LkV RL 36 yX3_filled cX3_filled 1 (some .int) 0 := ⟨⟨wA 301 rfl rfl, wA 302 rfl rfl, wA 303 rfl rfl, wA 11 rfl rfl, wA 304 rfl rfl⟩, by decide +kernel, by decide +kernel, by decide +kernel⟩
set_option maxRecDepth 50000 in
theorem lk_L_40 : LkV RL 40 yX3_leaves cX3_leaves 2 (some .int) 1 := ⟨⟨wA 104 rfl rfl, wA 105 rfl rfl, wA 106 rfl rfl, wA 11 rfl rfl, wA 107 rfl rfl⟩, by decide +kernel, by decide +kernel, by decide +kernel⟩
set_option maxRecDepth 50000 in
theorem lk_L_43 : LkV RL 43 yX3_year cX3_year 7 (some .int) 3 := ⟨⟨wA 297 rfl rfl, wA 298 rfl rfl, wA 299 rfl rfl, wA 11 rfl rfl, wA 300 rfl rfl⟩, by decide +kernel, by decide +kernel, by decide +kernel⟩
set_option maxRecDepth 50000 in
theorem lk_L_46 : LkV RL 46 yX3_yearByLeaves cX3_yearByLeaves 7 (some .int) 3 := ⟨⟨wA 449 rfl rfl, wA 450 rfl rfl, wA 451 rfl rfl, wA 11 rfl rfl, wA 452 rfl rfl⟩, by decide +kernel, by decide +kernel, by decide +kernel⟩
set_option maxRecDepth 50000 in
theorem lk_L_49 : LkV RL 49 yX3_gap cX3_gap 8 (some .int) 4 := ⟨⟨wA 309 rfl rfl, wA 310 rfl rfl, wA 311 rfl rfl, wA 11 rfl rfl, wA 312 rfl rfl⟩, by decide +kernel, by decide +kernel, by decide +kernel⟩
set_option maxRecDepth 50000 in
theorem lk_L_52 : LkI RL 52 yX3_init cX3_init 2 0 := ⟨⟨wA 24 rfl rfl, wA 25 rfl rfl, wA 11 rfl rfl, wA 26 rfl rfl⟩, by decide +kernel, by decide +kernel, by decide +kernel⟩
set_option maxRecDepth 50000 in
theorem lk_L_53 : LkV RL 53 yX3_places cX3_places 1 (some .int) 0 := ⟨⟨wA 96 rfl rfl, wA 97 rfl rfl, wA 98 rfl rfl, wA 11 rfl rfl, wA 99 rfl rfl⟩, by decide +kernel, by decide +kernel, by decide +kernel⟩
set_option maxRecDepth 50000 in
theorem lk_L_56 : LkS RL 56 yL_holds cL_holds 6 (some .boolean) 4 := ⟨⟨wA 446 rfl rfl, wA 447 rfl rfl, wA 10 rfl rfl, wA 448 rfl rfl⟩, by decide +kernel, by decide +kernel, by decide +kernel⟩
set_option maxRecDepth 50000 in
theorem lk_L_62 : LkS RL 62 yL_cell cL_cell 2 (some .int) 2 := ⟨⟨wA 326 rfl rfl, wA 327 rfl rfl, wA 10 rfl rfl, wA 328 rfl rfl⟩, by decide +kernel, by decide +kernel, by decide +kernel⟩
set_option maxRecDepth 50000 in
theorem lk_L_66 : LkS RL 66 yL_low cL_low 2 (some .int) 2 := ⟨⟨wA 322 rfl rfl, wA 323 rfl rfl, wA 10 rfl rfl, wA 324 rfl rfl⟩, by decide +kernel, by decide +kernel, by decide +kernel⟩
set_option maxRecDepth 50000 in
theorem lk_L_69 : LkS RL 69 yL_isLeaf cL_isLeaf 2 (some .boolean) 2 := ⟨⟨wA 457 rfl rfl, wA 458 rfl rfl, wA 10 rfl rfl, wA 459 rfl rfl⟩, by decide +kernel, by decide +kernel, by decide +kernel⟩
set_option maxRecDepth 50000 in
theorem lk_L_73 : LkH RL 73 yL_add cL_add 3 (some .int) [(0, 5, 6, 15)] 2 := ⟨⟨wA 330 rfl rfl, wA 331 rfl rfl, wA 10 rfl rfl, wA 332 rfl rfl⟩, by decide +kernel, by decide +kernel, by decide +kernel⟩
set_option maxRecDepth 50000 in
theorem lk_L_77 : LkV RL 77 yX3_amount cX3_amount 5 (some .int) 4 := ⟨⟨wA 269 rfl rfl, wA 270 rfl rfl, wA 271 rfl rfl, wA 11 rfl rfl, wA 272 rfl rfl⟩, by decide +kernel, by decide +kernel, by decide +kernel⟩
set_option maxRecDepth 50000 in
theorem k_L_80 : Cond.constant RL 80 1000001 ∈ wsA := wA 460 rfl rfl
set_option maxRecDepth 50000 in
theorem lk_L_81 : LkH RL 81 yL_set cL_set 7 (some .int) [(0, 11, 12, 15)] 6 := ⟨⟨wA 356 rfl rfl, wA 357 rfl rfl, wA 10 rfl rfl, wA 358 rfl rfl⟩, by decide +kernel, by decide +kernel, by decide +kernel⟩
set_option maxRecDepth 50000 in
theorem lk_L_84 : LkV RL 84 yX3_hold cX3_hold 6 (some .boolean) 3 := ⟨⟨wA 191 rfl rfl, wA 192 rfl rfl, wA 193 rfl rfl, wA 11 rfl rfl, wA 194 rfl rfl⟩, by decide +kernel, by decide +kernel, by decide +kernel⟩
set_option maxRecDepth 50000 in
theorem lk_L_88 : LkH RL 88 yL_spread cL_spread 7 (some .int) [(0, 11, 12, 15)] 6 := ⟨⟨wA 376 rfl rfl, wA 377 rfl rfl, wA 10 rfl rfl, wA 378 rfl rfl⟩, by decide +kernel, by decide +kernel, by decide +kernel⟩
set_option maxRecDepth 50000 in
theorem lk_L_90 : LkH RL 90 yL_spreadYear cL_spreadYear 5 (some .int) [(0, 7, 8, 15)] 4 := ⟨⟨wA 417 rfl rfl, wA 418 rfl rfl, wA 10 rfl rfl, wA 419 rfl rfl⟩, by decide +kernel, by decide +kernel, by decide +kernel⟩
set_option maxRecDepth 50000 in
theorem lk_L_93 : LkV RL 93 yX3_setSeason cX3_setSeason 3 (some .int) 2 := ⟨⟨wA 223 rfl rfl, wA 224 rfl rfl, wA 225 rfl rfl, wA 11 rfl rfl, wA 226 rfl rfl⟩, by decide +kernel, by decide +kernel, by decide +kernel⟩
set_option maxRecDepth 50000 in
theorem lk_L_96 : LkH RL 96 yL_copy cL_copy 4 (some .int) [(0, 6, 7, 15)] 3 := ⟨⟨wA 426 rfl rfl, wA 427 rfl rfl, wA 10 rfl rfl, wA 428 rfl rfl⟩, by decide +kernel, by decide +kernel, by decide +kernel⟩
set_option maxRecDepth 50000 in
theorem lk_L_99 : LkV RL 99 yX3_handIn cX3_handIn 4 (some .int) 2 := ⟨⟨wA 246 rfl rfl, wA 247 rfl rfl, wA 248 rfl rfl, wA 11 rfl rfl, wA 249 rfl rfl⟩, by decide +kernel, by decide +kernel, by decide +kernel⟩
set_option maxRecDepth 50000 in
theorem lk_L_102 : LkV RL 102 yX3_takeBack cX3_takeBack 4 (some .int) 2 := ⟨⟨wA 260 rfl rfl, wA 261 rfl rfl, wA 262 rfl rfl, wA 11 rfl rfl, wA 263 rfl rfl⟩, by decide +kernel, by decide +kernel, by decide +kernel⟩
set_option maxRecDepth 50000 in
theorem lk_L_105 : LkH RL 105 yL_see cL_see 6 (some .int) [(0, 9, 10, 15)] 5 := ⟨⟨wA 439 rfl rfl, wA 440 rfl rfl, wA 10 rfl rfl, wA 441 rfl rfl⟩, by decide +kernel, by decide +kernel, by decide +kernel⟩
set_option maxRecDepth 50000 in
theorem lk_L_108 : LkV RL 108 yX3_outlook cX3_outlook 6 (some .int) 4 := ⟨⟨wA 293 rfl rfl, wA 294 rfl rfl, wA 295 rfl rfl, wA 11 rfl rfl, wA 296 rfl rfl⟩, by decide +kernel, by decide +kernel, by decide +kernel⟩
set_option maxRecDepth 50000 in
theorem lk_L_111 : LkV RL 111 yX3_closeMonth cX3_closeMonth 1 (some .int) 0 := ⟨⟨wA 264 rfl rfl, wA 265 rfl rfl, wA 266 rfl rfl, wA 11 rfl rfl, wA 267 rfl rfl⟩, by decide +kernel, by decide +kernel, by decide +kernel⟩
set_option maxRecDepth 50000 in
theorem thA_eIO : ∀ w ∈ (vx_atS RX3 191 eIO eUp).filter goodWord, w ∈ wsA := fun w hw => List.mem_filter.mpr ⟨(by decide +kernel : ∀ w ∈ (vx_atS RX3 191 eIO eUp).filter goodWord, w ∈ lw_tbl) w hw, (List.mem_filter.mp hw).2⟩
set_option maxRecDepth 50000 in
theorem thB_eIO : ∀ w ∈ (vx_atS RX3 191 eIO eUp).filter (fun w => !goodWord w), w ∈ exW := by decide +kernel
set_option maxRecDepth 50000 in
theorem thC_eIO : ∀ w ∈ Cond.classLink RX3 187 eIO :: Cond.initialized eIO :: vx_atS RX3 191 eIO eUp, vx_ot w = true := List.all_eq_true.mp (by decide +kernel)
set_option maxRecDepth 50000 in
theorem th_eIO {is : Nat} {text : String} (h : (is, text) ∈ exS) : ThW eIO 187 is 191 text := ⟨by decide +kernel, wA 116 rfl rfl, wA 18 rfl rfl, thA_eIO, thB_eIO, thC_eIO, h⟩
set_option maxRecDepth 50000 in
theorem thA_eIS : ∀ w ∈ (vx_atS RX3 60 eIS eUp).filter goodWord, w ∈ wsA := fun w hw => List.mem_filter.mpr ⟨(by decide +kernel : ∀ w ∈ (vx_atS RX3 60 eIS eUp).filter goodWord, w ∈ lw_tbl) w hw, (List.mem_filter.mp hw).2⟩
set_option maxRecDepth 50000 in
theorem thB_eIS : ∀ w ∈ (vx_atS RX3 60 eIS eUp).filter (fun w => !goodWord w), w ∈ exW := by decide +kernel
set_option maxRecDepth 50000 in
theorem thC_eIS : ∀ w ∈ Cond.classLink RX3 56 eIS :: Cond.initialized eIS :: vx_atS RX3 60 eIS eUp, vx_ot w = true := List.all_eq_true.mp (by decide +kernel)
set_option maxRecDepth 50000 in
theorem th_eIS {is : Nat} {text : String} (h : (is, text) ∈ exS) : ThW eIS 56 is 60 text := ⟨by decide +kernel, wA 207 rfl rfl, wA 20 rfl rfl, thA_eIS, thB_eIS, thC_eIS, h⟩
set_option maxRecDepth 50000 in
theorem thA_eIA : ∀ w ∈ (vx_atS RX3 135 eIA eUp).filter goodWord, w ∈ wsA := fun w hw => List.mem_filter.mpr ⟨(by decide +kernel : ∀ w ∈ (vx_atS RX3 135 eIA eUp).filter goodWord, w ∈ lw_tbl) w hw, (List.mem_filter.mp hw).2⟩
set_option maxRecDepth 50000 in
theorem thB_eIA : ∀ w ∈ (vx_atS RX3 135 eIA eUp).filter (fun w => !goodWord w), w ∈ exW := by decide +kernel
set_option maxRecDepth 50000 in
theorem thC_eIA : ∀ w ∈ Cond.classLink RX3 131 eIA :: Cond.initialized eIA :: vx_atS RX3 135 eIA eUp, vx_ot w = true := List.all_eq_true.mp (by decide +kernel)
set_option maxRecDepth 50000 in
theorem th_eIA {is : Nat} {text : String} (h : (is, text) ∈ exS) : ThW eIA 131 is 135 text := ⟨by decide +kernel, wA 230 rfl rfl, wA 19 rfl rfl, thA_eIA, thB_eIA, thC_eIA, h⟩
set_option maxRecDepth 50000 in
theorem cl_L_10 : Cond.classLink RL 10 "BudgetBook" ∈ wsA := wA 22 rfl rfl
set_option maxRecDepth 50000 in
theorem cl_L_15 : Cond.classLink RL 15 "java/lang/IllegalStateException" ∈ wsA := wA 333 rfl rfl
set_option maxRecDepth 50000 in
theorem cl_X3_9 : Cond.classLink RX3 9 "BudgetBook$Tree" ∈ wsA := wA 30 rfl rfl
set_option maxRecDepth 50000 in
theorem cl_X3_16 : Cond.classLink RX3 16 "BudgetBook$Cells" ∈ wsA := wA 47 rfl rfl
set_option maxRecDepth 50000 in
theorem cl_X3_30 : Cond.classLink RX3 30 "BudgetBook$Shares" ∈ wsA := wA 57 rfl rfl
set_option maxRecDepth 50000 in
theorem in_X3 : Cond.instantiable RX3 7 ∈ wsA := wA 23 rfl rfl
set_option maxRecDepth 50000 in
theorem ini_X3 : Cond.initialized RX3 ∈ wsA := wA 11 rfl rfl
set_option maxRecDepth 50000 in
theorem in_X2 : Cond.instantiable RX2 3 ∈ wsA := wA 31 rfl rfl
set_option maxRecDepth 50000 in
theorem ini_X2 : Cond.initialized RX2 ∈ wsA := wA 12 rfl rfl
set_option maxRecDepth 50000 in
theorem in_X0 : Cond.instantiable RX0 1 ∈ wsA := wA 48 rfl rfl
set_option maxRecDepth 50000 in
theorem ini_X0 : Cond.initialized RX0 ∈ wsA := wA 13 rfl rfl
set_option maxRecDepth 50000 in
theorem in_X1 : Cond.instantiable RX1 2 ∈ wsA := wA 58 rfl rfl
set_option maxRecDepth 50000 in
theorem ini_X1 : Cond.initialized RX1 ∈ wsA := wA 14 rfl rfl
set_option maxRecDepth 50000 in
theorem ac_int : Cond.arrayClass .int ∈ wsA := wA 46 rfl rfl
set_option maxRecDepth 50000 in
theorem oi_X0 : Cond.methodLink RX0 5 objectInit ∈ wsA := wA 52 rfl rfl
set_option maxRecDepth 50000 in
theorem oi_X1 : Cond.methodLink RX1 3 objectInit ∈ wsA := wA 62 rfl rfl
set_option maxRecDepth 50000 in
theorem oi_X2 : Cond.methodLink RX2 3 objectInit ∈ wsA := wA 35 rfl rfl
set_option maxRecDepth 50000 in
theorem oi_X3 : Cond.methodLink RX3 3 objectInit ∈ wsA := wA 27 rfl rfl
set_option maxRecDepth 50000 in
theorem oi_1 : Cond.instanceMethod objectInit ∈ wsA := wA 28 rfl rfl
set_option maxRecDepth 50000 in
theorem oi_2 : Cond.code objectInit ⟨#[0xb1]⟩ 1 none ∈ wsA := wA 29 rfl rfl
