/-! the words that the code asks for, by their places in the tables (by program) -/
set_option maxRecDepth 50000 in
theorem aX0 : ∀ w ∈ u_ws RX0 TX0 1, w ∈ wsA := by
  intro w hw
  obtain ⟨k, hk, rfl⟩ := List.mem_map.mp hw
  have hk := List.mem_range.mp hk
  rcases (show k = 0 by omega) with rfl
  · exact wA 70 rfl rfl
set_option maxRecDepth 50000 in
theorem aX1 : ∀ w ∈ u_ws RX1 TX1 2, w ∈ wsA := by
  intro w hw
  obtain ⟨k, hk, rfl⟩ := List.mem_map.mp hw
  have hk := List.mem_range.mp hk
  rcases (show k = 0 ∨ k = 1 by omega) with rfl | rfl
  · exact wA 81 rfl rfl
  · exact wA 83 rfl rfl
set_option maxRecDepth 50000 in
theorem aX2 : ∀ w ∈ u_ws RX2 TX2 3, w ∈ wsA := by
  intro w hw
  obtain ⟨k, hk, rfl⟩ := List.mem_map.mp hw
  have hk := List.mem_range.mp hk
  rcases (show k = 0 ∨ k = 1 ∨ k = 2 by omega) with rfl | rfl | rfl
  · exact wA 55 rfl rfl
  · exact wA 57 rfl rfl
  · exact wA 59 rfl rfl
set_option maxRecDepth 50000 in
theorem aX3 : ∀ w ∈ u_ws RX3 TX3 7, w ∈ wsA := by
  intro w hw
  obtain ⟨k, hk, rfl⟩ := List.mem_map.mp hw
  have hk := List.mem_range.mp hk
  rcases (show k = 0 ∨ k = 1 ∨ k = 2 ∨ k = 3 ∨ k = 4 ∨ k = 5 ∨ k = 6 by omega) with rfl | rfl | rfl | rfl | rfl | rfl | rfl
  · exact wA 97 rfl rfl
  · exact wA 99 rfl rfl
  · exact wA 101 rfl rfl
  · exact wA 103 rfl rfl
  · exact wA 105 rfl rfl
  · exact wA 107 rfl rfl
  · exact wA 109 rfl rfl
set_option maxRecDepth 50000 in
theorem aX4 : ∀ w ∈ u_ws RX4 TX4 11, w ∈ wsA := by
  intro w hw
  obtain ⟨k, hk, rfl⟩ := List.mem_map.mp hw
  have hk := List.mem_range.mp hk
  rcases (show k = 0 ∨ k = 1 ∨ k = 2 ∨ k = 3 ∨ k = 4 ∨ k = 5 ∨ k = 6 ∨ k = 7 ∨ k = 8 ∨ k = 9 ∨ k = 10 by omega) with rfl | rfl | rfl | rfl | rfl | rfl | rfl | rfl | rfl | rfl | rfl
  · exact wA 514 rfl rfl
  · exact wA 516 rfl rfl
  · exact wA 518 rfl rfl
  · exact wA 520 rfl rfl
  · exact wA 522 rfl rfl
  · exact wA 524 rfl rfl
  · exact wA 526 rfl rfl
  · exact wA 528 rfl rfl
  · exact wA 530 rfl rfl
  · exact wA 532 rfl rfl
  · exact wA 534 rfl rfl
set_option maxRecDepth 50000 in
theorem pF_X0_11 {l : Launch} {γ : Gm} {κ : Kx} {cc : ByteArray} {nL f ll : Nat} (C : Ok γ κ cc nL RX0 f ll) {ws ws' : va_W} {lv : List (Nat × Value)} {k n pc pc' a : Nat} {st : List Value} {fs : List Value} {v : Value} (d : decode cc pc = .ok (.putfield 11, 3)) (hp : pc' = pc + 3) (q0 : Nat) (he : ws[q0]? = some (a, .inr (0, fs))) (hin2 : κ.meth.name = "<init>") (hn : narrow (tyX0 0) v = v) (hfit : fits (tyX0 0) v = true) (hl : 0 < fs.length) (hws : ws.set q0 (a, .inr (0, fs.set 0 v)) = ws') (kk : G l γ κ ws' lv k n st pc') : G l γ κ ws lv k n (v :: .ref a :: st) pc := g_putF (kf := 0) C aX0 tyX0 tyX0_ok nmX0 rfl (by decide) (wA (w := Cond.fieldLink RX0 11 (TX0 0).1 (TX0 0).2.1 (TX0 0).2.2.1) 69 rfl rfl) rfl rfl (tyX0_ok 0 (by decide)) hin2 hn hfit d hp q0 he hl hws kk
set_option maxRecDepth 50000 in
theorem gf_X0_11 {l : Launch} {γ : Gm} {κ : Kx} {cc : ByteArray} {nL f ll : Nat} (C : Ok γ κ cc nL RX0 f ll) {ws : va_W} {lv : List (Nat × Value)} {k n pc pc' a : Nat} {st : List Value} {fs : List Value} {v : Value} (d : decode cc pc = .ok (.getfield 11, 3)) (hp : pc' = pc + 3) (q0 : Nat) (he : ws[q0]? = some (a, .inr (0, fs))) (hv : fs[0]? = some v) (kk : G l γ κ ws lv k n (v :: st) pc') : G l γ κ ws lv k n (.ref a :: st) pc := g_get (kf := 0) C aX0 rfl (by decide) (wA (w := Cond.fieldLink RX0 11 (TX0 0).1 (TX0 0).2.1 (TX0 0).2.2.1) 69 rfl rfl) d hp q0 he hv kk
set_option maxRecDepth 50000 in
theorem lk_X0_15 : LkS RX0 15 yX0_indexOf cX0_indexOf 4 (some .int) 4 := ⟨⟨wA 318 rfl rfl, wA 319 rfl rfl, wA 28 rfl rfl, wA 320 rfl rfl⟩, by decide +kernel, by decide +kernel, by decide +kernel⟩
set_option maxRecDepth 50000 in
theorem lk_X0_19 : LkV RX0 19 yX0_at cX0_at 5 (some .int) 4 := ⟨⟨wA 364 rfl rfl, wA 365 rfl rfl, wA 366 rfl rfl, wA 28 rfl rfl, wA 367 rfl rfl⟩, by decide +kernel, by decide +kernel, by decide +kernel⟩
set_option maxRecDepth 50000 in
theorem lk_X0_22 : LkN RX0 22 yX3_isIn RX3 cX3_isIn 2 (some .boolean) 2 := ⟨⟨by simp [exW], wA 238 rfl rfl, wA 26 rfl rfl, wA 239 rfl rfl⟩, by decide +kernel, by decide +kernel, by decide +kernel⟩
set_option maxRecDepth 50000 in
theorem lk_X0_26 : LkV RX0 26 yX0_valueOf cX0_valueOf 5 (some .int) 4 := ⟨⟨wA 360 rfl rfl, wA 361 rfl rfl, wA 362 rfl rfl, wA 28 rfl rfl, wA 363 rfl rfl⟩, by decide +kernel, by decide +kernel, by decide +kernel⟩
set_option maxRecDepth 50000 in
theorem pF_X1_9 {l : Launch} {γ : Gm} {κ : Kx} {cc : ByteArray} {nL f ll : Nat} (C : Ok γ κ cc nL RX1 f ll) {ws ws' : va_W} {lv : List (Nat × Value)} {k n pc pc' a : Nat} {st : List Value} {fs : List Value} {v : Value} (d : decode cc pc = .ok (.putfield 9, 3)) (hp : pc' = pc + 3) (q0 : Nat) (he : ws[q0]? = some (a, .inr (1, fs))) (hin2 : κ.meth.name = "<init>") (hn : narrow (tyX1 0) v = v) (hfit : fits (tyX1 0) v = true) (hl : 0 < fs.length) (hws : ws.set q0 (a, .inr (1, fs.set 0 v)) = ws') (kk : G l γ κ ws' lv k n st pc') : G l γ κ ws lv k n (v :: .ref a :: st) pc := g_putF (kf := 0) C aX1 tyX1 tyX1_ok nmX1 rfl (by decide) (wA (w := Cond.fieldLink RX1 9 (TX1 0).1 (TX1 0).2.1 (TX1 0).2.2.1) 79 rfl rfl) rfl rfl (tyX1_ok 0 (by decide)) hin2 hn hfit d hp q0 he hl hws kk
set_option maxRecDepth 50000 in
theorem pF_X1_15 {l : Launch} {γ : Gm} {κ : Kx} {cc : ByteArray} {nL f ll : Nat} (C : Ok γ κ cc nL RX1 f ll) {ws ws' : va_W} {lv : List (Nat × Value)} {k n pc pc' a : Nat} {st : List Value} {fs : List Value} {v : Value} (d : decode cc pc = .ok (.putfield 15, 3)) (hp : pc' = pc + 3) (q0 : Nat) (he : ws[q0]? = some (a, .inr (1, fs))) (hin2 : κ.meth.name = "<init>") (hn : narrow (tyX1 1) v = v) (hfit : fits (tyX1 1) v = true) (hl : 1 < fs.length) (hws : ws.set q0 (a, .inr (1, fs.set 1 v)) = ws') (kk : G l γ κ ws' lv k n st pc') : G l γ κ ws lv k n (v :: .ref a :: st) pc := g_putF (kf := 1) C aX1 tyX1 tyX1_ok nmX1 rfl (by decide) (wA (w := Cond.fieldLink RX1 15 (TX1 1).1 (TX1 1).2.1 (TX1 1).2.2.1) 80 rfl rfl) rfl rfl (tyX1_ok 1 (by decide)) hin2 hn hfit d hp q0 he hl hws kk
set_option maxRecDepth 50000 in
theorem gf_X1_9 {l : Launch} {γ : Gm} {κ : Kx} {cc : ByteArray} {nL f ll : Nat} (C : Ok γ κ cc nL RX1 f ll) {ws : va_W} {lv : List (Nat × Value)} {k n pc pc' a : Nat} {st : List Value} {fs : List Value} {v : Value} (d : decode cc pc = .ok (.getfield 9, 3)) (hp : pc' = pc + 3) (q0 : Nat) (he : ws[q0]? = some (a, .inr (1, fs))) (hv : fs[0]? = some v) (kk : G l γ κ ws lv k n (v :: st) pc') : G l γ κ ws lv k n (.ref a :: st) pc := g_get (kf := 0) C aX1 rfl (by decide) (wA (w := Cond.fieldLink RX1 9 (TX1 0).1 (TX1 0).2.1 (TX1 0).2.2.1) 79 rfl rfl) d hp q0 he hv kk
set_option maxRecDepth 50000 in
theorem gf_X1_15 {l : Launch} {γ : Gm} {κ : Kx} {cc : ByteArray} {nL f ll : Nat} (C : Ok γ κ cc nL RX1 f ll) {ws : va_W} {lv : List (Nat × Value)} {k n pc pc' a : Nat} {st : List Value} {fs : List Value} {v : Value} (d : decode cc pc = .ok (.getfield 15, 3)) (hp : pc' = pc + 3) (q0 : Nat) (he : ws[q0]? = some (a, .inr (1, fs))) (hv : fs[1]? = some v) (kk : G l γ κ ws lv k n (v :: st) pc') : G l γ κ ws lv k n (.ref a :: st) pc := g_get (kf := 1) C aX1 rfl (by decide) (wA (w := Cond.fieldLink RX1 15 (TX1 1).1 (TX1 1).2.1 (TX1 1).2.2.1) 80 rfl rfl) d hp q0 he hv kk
set_option maxRecDepth 50000 in
theorem lk_X1_18 : LkV RX1 18 yX1_totalWeight cX1_totalWeight 3 (some .int) 0 := ⟨⟨wA 382 rfl rfl, wA 383 rfl rfl, wA 384 rfl rfl, wA 29 rfl rfl, wA 385 rfl rfl⟩, by decide +kernel, by decide +kernel, by decide +kernel⟩
set_option maxRecDepth 50000 in
theorem pF_X2_9 {l : Launch} {γ : Gm} {κ : Kx} {cc : ByteArray} {nL f ll : Nat} (C : Ok γ κ cc nL RX2 f ll) {ws ws' : va_W} {lv : List (Nat × Value)} {k n pc pc' a : Nat} {st : List Value} {fs : List Value} {v : Value} (d : decode cc pc = .ok (.putfield 9, 3)) (hp : pc' = pc + 3) (q0 : Nat) (he : ws[q0]? = some (a, .inr (2, fs))) (hin2 : κ.meth.name = "<init>") (hn : narrow (tyX2 0) v = v) (hfit : fits (tyX2 0) v = true) (hl : 0 < fs.length) (hws : ws.set q0 (a, .inr (2, fs.set 0 v)) = ws') (kk : G l γ κ ws' lv k n st pc') : G l γ κ ws lv k n (v :: .ref a :: st) pc := g_putF (kf := 0) C aX2 tyX2 tyX2_ok nmX2 rfl (by decide) (wA (w := Cond.fieldLink RX2 9 (TX2 0).1 (TX2 0).2.1 (TX2 0).2.2.1) 52 rfl rfl) rfl rfl (tyX2_ok 0 (by decide)) hin2 hn hfit d hp q0 he hl hws kk
set_option maxRecDepth 50000 in
theorem pf_X2_15 {l : Launch} {γ : Gm} {κ : Kx} {cc : ByteArray} {nL f ll : Nat} (C : Ok γ κ cc nL RX2 f ll) {ws ws' : va_W} {lv : List (Nat × Value)} {k n pc pc' a : Nat} {st : List Value} {fs : List Value} {v : Value} (d : decode cc pc = .ok (.putfield 15, 3)) (hp : pc' = pc + 3) (q0 : Nat) (he : ws[q0]? = some (a, .inr (2, fs))) (hn : narrow (tyX2 1) v = v) (hfit : fits (tyX2 1) v = true) (hl : 1 < fs.length) (hws : ws.set q0 (a, .inr (2, fs.set 1 v)) = ws') (kk : G l γ κ ws' lv k n st pc') : G l γ κ ws lv k n (v :: .ref a :: st) pc := g_put (kf := 1) C aX2 tyX2 tyX2_ok nmX2 rfl (by decide) (wA (w := Cond.fieldLink RX2 15 (TX2 1).1 (TX2 1).2.1 (TX2 1).2.2.1) 53 rfl rfl) rfl (tyX2_ok 1 (by decide)) hn hfit d hp q0 he hl hws kk
set_option maxRecDepth 50000 in
theorem pf_X2_19 {l : Launch} {γ : Gm} {κ : Kx} {cc : ByteArray} {nL f ll : Nat} (C : Ok γ κ cc nL RX2 f ll) {ws ws' : va_W} {lv : List (Nat × Value)} {k n pc pc' a : Nat} {st : List Value} {fs : List Value} {v : Value} (d : decode cc pc = .ok (.putfield 19, 3)) (hp : pc' = pc + 3) (q0 : Nat) (he : ws[q0]? = some (a, .inr (2, fs))) (hn : narrow (tyX2 2) v = v) (hfit : fits (tyX2 2) v = true) (hl : 2 < fs.length) (hws : ws.set q0 (a, .inr (2, fs.set 2 v)) = ws') (kk : G l γ κ ws' lv k n st pc') : G l γ κ ws lv k n (v :: .ref a :: st) pc := g_put (kf := 2) C aX2 tyX2 tyX2_ok nmX2 rfl (by decide) (wA (w := Cond.fieldLink RX2 19 (TX2 2).1 (TX2 2).2.1 (TX2 2).2.2.1) 54 rfl rfl) rfl (tyX2_ok 2 (by decide)) hn hfit d hp q0 he hl hws kk
set_option maxRecDepth 50000 in
theorem gf_X2_15 {l : Launch} {γ : Gm} {κ : Kx} {cc : ByteArray} {nL f ll : Nat} (C : Ok γ κ cc nL RX2 f ll) {ws : va_W} {lv : List (Nat × Value)} {k n pc pc' a : Nat} {st : List Value} {fs : List Value} {v : Value} (d : decode cc pc = .ok (.getfield 15, 3)) (hp : pc' = pc + 3) (q0 : Nat) (he : ws[q0]? = some (a, .inr (2, fs))) (hv : fs[1]? = some v) (kk : G l γ κ ws lv k n (v :: st) pc') : G l γ κ ws lv k n (.ref a :: st) pc := g_get (kf := 1) C aX2 rfl (by decide) (wA (w := Cond.fieldLink RX2 15 (TX2 1).1 (TX2 1).2.1 (TX2 1).2.2.1) 53 rfl rfl) d hp q0 he hv kk
set_option maxRecDepth 50000 in
theorem gf_X2_19 {l : Launch} {γ : Gm} {κ : Kx} {cc : ByteArray} {nL f ll : Nat} (C : Ok γ κ cc nL RX2 f ll) {ws : va_W} {lv : List (Nat × Value)} {k n pc pc' a : Nat} {st : List Value} {fs : List Value} {v : Value} (d : decode cc pc = .ok (.getfield 19, 3)) (hp : pc' = pc + 3) (q0 : Nat) (he : ws[q0]? = some (a, .inr (2, fs))) (hv : fs[2]? = some v) (kk : G l γ κ ws lv k n (v :: st) pc') : G l γ κ ws lv k n (.ref a :: st) pc := g_get (kf := 2) C aX2 rfl (by decide) (wA (w := Cond.fieldLink RX2 19 (TX2 2).1 (TX2 2).2.1 (TX2 2).2.2.1) 54 rfl rfl) d hp q0 he hv kk
set_option maxRecDepth 50000 in
theorem lk_X2_22 : LkN RX2 22 yX3_isIn RX3 cX3_isIn 2 (some .boolean) 2 := ⟨⟨by simp [exW], wA 238 rfl rfl, wA 26 rfl rfl, wA 239 rfl rfl⟩, by decide +kernel, by decide +kernel, by decide +kernel⟩
set_option maxRecDepth 50000 in
theorem gf_X2_9 {l : Launch} {γ : Gm} {κ : Kx} {cc : ByteArray} {nL f ll : Nat} (C : Ok γ κ cc nL RX2 f ll) {ws : va_W} {lv : List (Nat × Value)} {k n pc pc' a : Nat} {st : List Value} {fs : List Value} {v : Value} (d : decode cc pc = .ok (.getfield 9, 3)) (hp : pc' = pc + 3) (q0 : Nat) (he : ws[q0]? = some (a, .inr (2, fs))) (hv : fs[0]? = some v) (kk : G l γ κ ws lv k n (v :: st) pc') : G l γ κ ws lv k n (.ref a :: st) pc := g_get (kf := 0) C aX2 rfl (by decide) (wA (w := Cond.fieldLink RX2 9 (TX2 0).1 (TX2 0).2.1 (TX2 0).2.2.1) 52 rfl rfl) d hp q0 he hv kk
set_option maxRecDepth 50000 in
theorem lk_X3_11 : LkIN RX3 11 yX2_init RX3 cX2_init 1 0 := ⟨⟨by simp [exW], wA 49 rfl rfl, wA 27 rfl rfl, wA 50 rfl rfl⟩, by decide +kernel, by decide +kernel, by decide +kernel⟩
set_option maxRecDepth 50000 in
theorem pF_X3_12 {l : Launch} {γ : Gm} {κ : Kx} {cc : ByteArray} {nL f ll : Nat} (C : Ok γ κ cc nL RX3 f ll) {ws ws' : va_W} {lv : List (Nat × Value)} {k n pc pc' a : Nat} {st : List Value} {fs : List Value} {v : Value} (d : decode cc pc = .ok (.putfield 12, 3)) (hp : pc' = pc + 3) (q0 : Nat) (he : ws[q0]? = some (a, .inr (3, fs))) (hin2 : κ.meth.name = "<init>") (hn : narrow (tyX3 0) v = v) (hfit : fits (tyX3 0) v = true) (hl : 0 < fs.length) (hws : ws.set q0 (a, .inr (3, fs.set 0 v)) = ws') (kk : G l γ κ ws' lv k n st pc') : G l γ κ ws lv k n (v :: .ref a :: st) pc := g_putF (kf := 0) C aX3 tyX3 tyX3_ok nmX3 rfl (by decide) (wA (w := Cond.fieldLink RX3 12 (TX3 0).1 (TX3 0).2.1 (TX3 0).2.2.1) 90 rfl rfl) rfl rfl (tyX3_ok 0 (by decide)) hin2 hn hfit d hp q0 he hl hws kk
set_option maxRecDepth 50000 in
theorem lk_X3_18 : LkIN RX3 18 yX0_init RX3 cX0_init 1 0 := ⟨⟨by simp [exW], wA 66 rfl rfl, wA 28 rfl rfl, wA 67 rfl rfl⟩, by decide +kernel, by decide +kernel, by decide +kernel⟩
set_option maxRecDepth 50000 in
theorem pF_X3_19 {l : Launch} {γ : Gm} {κ : Kx} {cc : ByteArray} {nL f ll : Nat} (C : Ok γ κ cc nL RX3 f ll) {ws ws' : va_W} {lv : List (Nat × Value)} {k n pc pc' a : Nat} {st : List Value} {fs : List Value} {v : Value} (d : decode cc pc = .ok (.putfield 19, 3)) (hp : pc' = pc + 3) (q0 : Nat) (he : ws[q0]? = some (a, .inr (3, fs))) (hin2 : κ.meth.name = "<init>") (hn : narrow (tyX3 1) v = v) (hfit : fits (tyX3 1) v = true) (hl : 1 < fs.length) (hws : ws.set q0 (a, .inr (3, fs.set 1 v)) = ws') (kk : G l γ κ ws' lv k n st pc') : G l γ κ ws lv k n (v :: .ref a :: st) pc := g_putF (kf := 1) C aX3 tyX3 tyX3_ok nmX3 rfl (by decide) (wA (w := Cond.fieldLink RX3 19 (TX3 1).1 (TX3 1).2.1 (TX3 1).2.2.1) 91 rfl rfl) rfl rfl (tyX3_ok 1 (by decide)) hin2 hn hfit d hp q0 he hl hws kk
set_option maxRecDepth 50000 in
theorem pF_X3_23 {l : Launch} {γ : Gm} {κ : Kx} {cc : ByteArray} {nL f ll : Nat} (C : Ok γ κ cc nL RX3 f ll) {ws ws' : va_W} {lv : List (Nat × Value)} {k n pc pc' a : Nat} {st : List Value} {fs : List Value} {v : Value} (d : decode cc pc = .ok (.putfield 23, 3)) (hp : pc' = pc + 3) (q0 : Nat) (he : ws[q0]? = some (a, .inr (3, fs))) (hin2 : κ.meth.name = "<init>") (hn : narrow (tyX3 2) v = v) (hfit : fits (tyX3 2) v = true) (hl : 2 < fs.length) (hws : ws.set q0 (a, .inr (3, fs.set 2 v)) = ws') (kk : G l γ κ ws' lv k n st pc') : G l γ κ ws lv k n (v :: .ref a :: st) pc := g_putF (kf := 2) C aX3 tyX3 tyX3_ok nmX3 rfl (by decide) (wA (w := Cond.fieldLink RX3 23 (TX3 2).1 (TX3 2).2.1 (TX3 2).2.2.1) 92 rfl rfl) rfl rfl (tyX3_ok 2 (by decide)) hin2 hn hfit d hp q0 he hl hws kk
set_option maxRecDepth 50000 in
theorem pF_X3_27 {l : Launch} {γ : Gm} {κ : Kx} {cc : ByteArray} {nL f ll : Nat} (C : Ok γ κ cc nL RX3 f ll) {ws ws' : va_W} {lv : List (Nat × Value)} {k n pc pc' a : Nat} {st : List Value} {fs : List Value} {v : Value} (d : decode cc pc = .ok (.putfield 27, 3)) (hp : pc' = pc + 3) (q0 : Nat) (he : ws[q0]? = some (a, .inr (3, fs))) (hin2 : κ.meth.name = "<init>") (hn : narrow (tyX3 3) v = v) (hfit : fits (tyX3 3) v = true) (hl : 3 < fs.length) (hws : ws.set q0 (a, .inr (3, fs.set 3 v)) = ws') (kk : G l γ κ ws' lv k n st pc') : G l γ κ ws lv k n (v :: .ref a :: st) pc := g_putF (kf := 3) C aX3 tyX3 tyX3_ok nmX3 rfl (by decide) (wA (w := Cond.fieldLink RX3 27 (TX3 3).1 (TX3 3).2.1 (TX3 3).2.2.1) 93 rfl rfl) rfl rfl (tyX3_ok 3 (by decide)) hin2 hn hfit d hp q0 he hl hws kk
set_option maxRecDepth 50000 in
theorem lk_X3_32 : LkIN RX3 32 yX1_init RX3 cX1_init 1 0 := ⟨⟨by simp [exW], wA 76 rfl rfl, wA 29 rfl rfl, wA 77 rfl rfl⟩, by decide +kernel, by decide +kernel, by decide +kernel⟩
set_option maxRecDepth 50000 in
theorem pF_X3_33 {l : Launch} {γ : Gm} {κ : Kx} {cc : ByteArray} {nL f ll : Nat} (C : Ok γ κ cc nL RX3 f ll) {ws ws' : va_W} {lv : List (Nat × Value)} {k n pc pc' a : Nat} {st : List Value} {fs : List Value} {v : Value} (d : decode cc pc = .ok (.putfield 33, 3)) (hp : pc' = pc + 3) (q0 : Nat) (he : ws[q0]? = some (a, .inr (3, fs))) (hin2 : κ.meth.name = "<init>") (hn : narrow (tyX3 4) v = v) (hfit : fits (tyX3 4) v = true) (hl : 4 < fs.length) (hws : ws.set q0 (a, .inr (3, fs.set 4 v)) = ws') (kk : G l γ κ ws' lv k n st pc') : G l γ κ ws lv k n (v :: .ref a :: st) pc := g_putF (kf := 4) C aX3 tyX3 tyX3_ok nmX3 rfl (by decide) (wA (w := Cond.fieldLink RX3 33 (TX3 4).1 (TX3 4).2.1 (TX3 4).2.2.1) 94 rfl rfl) rfl rfl (tyX3_ok 4 (by decide)) hin2 hn hfit d hp q0 he hl hws kk
set_option maxRecDepth 50000 in
theorem pF_X3_37 {l : Launch} {γ : Gm} {κ : Kx} {cc : ByteArray} {nL f ll : Nat} (C : Ok γ κ cc nL RX3 f ll) {ws ws' : va_W} {lv : List (Nat × Value)} {k n pc pc' a : Nat} {st : List Value} {fs : List Value} {v : Value} (d : decode cc pc = .ok (.putfield 37, 3)) (hp : pc' = pc + 3) (q0 : Nat) (he : ws[q0]? = some (a, .inr (3, fs))) (hin2 : κ.meth.name = "<init>") (hn : narrow (tyX3 5) v = v) (hfit : fits (tyX3 5) v = true) (hl : 5 < fs.length) (hws : ws.set q0 (a, .inr (3, fs.set 5 v)) = ws') (kk : G l γ κ ws' lv k n st pc') : G l γ κ ws lv k n (v :: .ref a :: st) pc := g_putF (kf := 5) C aX3 tyX3 tyX3_ok nmX3 rfl (by decide) (wA (w := Cond.fieldLink RX3 37 (TX3 5).1 (TX3 5).2.1 (TX3 5).2.2.1) 95 rfl rfl) rfl rfl (tyX3_ok 5 (by decide)) hin2 hn hfit d hp q0 he hl hws kk
set_option maxRecDepth 50000 in
theorem pf_X3_40 {l : Launch} {γ : Gm} {κ : Kx} {cc : ByteArray} {nL f ll : Nat} (C : Ok γ κ cc nL RX3 f ll) {ws ws' : va_W} {lv : List (Nat × Value)} {k n pc pc' a : Nat} {st : List Value} {fs : List Value} {v : Value} (d : decode cc pc = .ok (.putfield 40, 3)) (hp : pc' = pc + 3) (q0 : Nat) (he : ws[q0]? = some (a, .inr (3, fs))) (hn : narrow (tyX3 6) v = v) (hfit : fits (tyX3 6) v = true) (hl : 6 < fs.length) (hws : ws.set q0 (a, .inr (3, fs.set 6 v)) = ws') (kk : G l γ κ ws' lv k n st pc') : G l γ κ ws lv k n (v :: .ref a :: st) pc := g_put (kf := 6) C aX3 tyX3 tyX3_ok nmX3 rfl (by decide) (wA (w := Cond.fieldLink RX3 40 (TX3 6).1 (TX3 6).2.1 (TX3 6).2.2.1) 96 rfl rfl) rfl (tyX3_ok 6 (by decide)) hn hfit d hp q0 he hl hws kk
set_option maxRecDepth 50000 in
theorem gf_X3_33 {l : Launch} {γ : Gm} {κ : Kx} {cc : ByteArray} {nL f ll : Nat} (C : Ok γ κ cc nL RX3 f ll) {ws : va_W} {lv : List (Nat × Value)} {k n pc pc' a : Nat} {st : List Value} {fs : List Value} {v : Value} (d : decode cc pc = .ok (.getfield 33, 3)) (hp : pc' = pc + 3) (q0 : Nat) (he : ws[q0]? = some (a, .inr (3, fs))) (hv : fs[4]? = some v) (kk : G l γ κ ws lv k n (v :: st) pc') : G l γ κ ws lv k n (.ref a :: st) pc := g_get (kf := 4) C aX3 rfl (by decide) (wA (w := Cond.fieldLink RX3 33 (TX3 4).1 (TX3 4).2.1 (TX3 4).2.2.1) 94 rfl rfl) d hp q0 he hv kk
set_option maxRecDepth 50000 in
theorem lk_X3_44 : LkV RX3 44 yX1_weigh cX1_weigh 4 (some .int) 2 := ⟨⟨wA 86 rfl rfl, wA 87 rfl rfl, wA 88 rfl rfl, wA 29 rfl rfl, wA 89 rfl rfl⟩, by decide +kernel, by decide +kernel, by decide +kernel⟩
set_option maxRecDepth 50000 in
theorem lk_X3_48 : LkV RX3 48 yX3_checkPlace cX3_checkPlace 2 none 1 := ⟨⟨wA 137 rfl rfl, wA 139 rfl rfl, wA 0 rfl rfl, wA 26 rfl rfl, wA 140 rfl rfl⟩, by decide +kernel, by decide +kernel, by decide +kernel⟩
set_option maxRecDepth 50000 in
theorem gf_X3_12 {l : Launch} {γ : Gm} {κ : Kx} {cc : ByteArray} {nL f ll : Nat} (C : Ok γ κ cc nL RX3 f ll) {ws : va_W} {lv : List (Nat × Value)} {k n pc pc' a : Nat} {st : List Value} {fs : List Value} {v : Value} (d : decode cc pc = .ok (.getfield 12, 3)) (hp : pc' = pc + 3) (q0 : Nat) (he : ws[q0]? = some (a, .inr (3, fs))) (hv : fs[0]? = some v) (kk : G l γ κ ws lv k n (v :: st) pc') : G l γ κ ws lv k n (.ref a :: st) pc := g_get (kf := 0) C aX3 rfl (by decide) (wA (w := Cond.fieldLink RX3 12 (TX3 0).1 (TX3 0).2.1 (TX3 0).2.2.1) 90 rfl rfl) d hp q0 he hv kk
set_option maxRecDepth 50000 in
theorem lk_X3_52 : LkV RX3 52 yX2_isFull cX2_isFull 1 (some .boolean) 0 := ⟨⟨wA 213 rfl rfl, wA 214 rfl rfl, wA 215 rfl rfl, wA 27 rfl rfl, wA 216 rfl rfl⟩, by decide +kernel, by decide +kernel, by decide +kernel⟩
set_option maxRecDepth 50000 in
theorem lk_X3_63 : LkV RX3 63 yX2_isLeaf cX2_isLeaf 2 (some .boolean) 1 := ⟨⟨wA 233 rfl rfl, wA 234 rfl rfl, wA 235 rfl rfl, wA 27 rfl rfl, wA 236 rfl rfl⟩, by decide +kernel, by decide +kernel, by decide +kernel⟩
set_option maxRecDepth 50000 in
theorem lk_X3_67 : LkV RX3 67 yX3_isInUse cX3_isInUse 4 (some .boolean) 1 := ⟨⟨wA 240 rfl rfl, wA 242 rfl rfl, wA 2 rfl rfl, wA 26 rfl rfl, wA 243 rfl rfl⟩, by decide +kernel, by decide +kernel, by decide +kernel⟩
set_option maxRecDepth 50000 in
theorem lk_X3_72 : LkV RX3 72 yX2_addBelow cX2_addBelow 3 (some .int) 1 := ⟨⟨wA 250 rfl rfl, wA 251 rfl rfl, wA 252 rfl rfl, wA 27 rfl rfl, wA 253 rfl rfl⟩, by decide +kernel, by decide +kernel, by decide +kernel⟩
set_option maxRecDepth 50000 in
theorem lk_X3_76 : LkV RX3 76 yX2_size cX2_size 1 (some .int) 0 := ⟨⟨wA 116 rfl rfl, wA 117 rfl rfl, wA 118 rfl rfl, wA 27 rfl rfl, wA 119 rfl rfl⟩, by decide +kernel, by decide +kernel, by decide +kernel⟩
set_option maxRecDepth 50000 in
theorem lk_X3_80 : LkV RX3 80 yX2_leavesBelow cX2_leavesBelow 4 (some .int) 1 := ⟨⟨wA 261 rfl rfl, wA 262 rfl rfl, wA 263 rfl rfl, wA 27 rfl rfl, wA 264 rfl rfl⟩, by decide +kernel, by decide +kernel, by decide +kernel⟩
set_option maxRecDepth 50000 in
theorem lk_X3_83 : LkS RX3 83 yX3_checkVersion cX3_checkVersion 1 none 1 := ⟨⟨wA 273 rfl rfl, wA 274 rfl rfl, wA 26 rfl rfl, wA 275 rfl rfl⟩, by decide +kernel, by decide +kernel, by decide +kernel⟩
set_option maxRecDepth 50000 in
theorem lk_X3_86 : LkS RX3 86 yX3_checkCellAccount cX3_checkCellAccount 1 none 1 := ⟨⟨wA 277 rfl rfl, wA 278 rfl rfl, wA 26 rfl rfl, wA 279 rfl rfl⟩, by decide +kernel, by decide +kernel, by decide +kernel⟩
set_option maxRecDepth 50000 in
theorem lk_X3_89 : LkS RX3 89 yX3_checkMonth cX3_checkMonth 1 none 1 := ⟨⟨wA 281 rfl rfl, wA 282 rfl rfl, wA 26 rfl rfl, wA 283 rfl rfl⟩, by decide +kernel, by decide +kernel, by decide +kernel⟩
set_option maxRecDepth 50000 in
theorem lk_X3_92 : LkS RX3 92 yX3_mostOf cX3_mostOf 1 (some .int) 1 := ⟨⟨wA 285 rfl rfl, wA 286 rfl rfl, wA 26 rfl rfl, wA 287 rfl rfl⟩, by decide +kernel, by decide +kernel, by decide +kernel⟩
set_option maxRecDepth 50000 in
theorem lk_X3_95 : LkS RX3 95 yX3_checkUpTo cX3_checkUpTo 2 none 2 := ⟨⟨wA 289 rfl rfl, wA 290 rfl rfl, wA 26 rfl rfl, wA 291 rfl rfl⟩, by decide +kernel, by decide +kernel, by decide +kernel⟩
set_option maxRecDepth 50000 in
theorem lk_X3_99 : LkV RX3 99 yX3_checkLeaf cX3_checkLeaf 2 none 1 := ⟨⟨wA 308 rfl rfl, wA 310 rfl rfl, wA 3 rfl rfl, wA 26 rfl rfl, wA 311 rfl rfl⟩, by decide +kernel, by decide +kernel, by decide +kernel⟩
set_option maxRecDepth 50000 in
theorem gf_X3_27 {l : Launch} {γ : Gm} {κ : Kx} {cc : ByteArray} {nL f ll : Nat} (C : Ok γ κ cc nL RX3 f ll) {ws : va_W} {lv : List (Nat × Value)} {k n pc pc' a : Nat} {st : List Value} {fs : List Value} {v : Value} (d : decode cc pc = .ok (.getfield 27, 3)) (hp : pc' = pc + 3) (q0 : Nat) (he : ws[q0]? = some (a, .inr (3, fs))) (hv : fs[3]? = some v) (kk : G l γ κ ws lv k n (v :: st) pc') : G l γ κ ws lv k n (.ref a :: st) pc := g_get (kf := 3) C aX3 rfl (by decide) (wA (w := Cond.fieldLink RX3 27 (TX3 3).1 (TX3 3).2.1 (TX3 3).2.2.1) 93 rfl rfl) d hp q0 he hv kk
set_option maxRecDepth 50000 in
theorem lk_X3_102 : LkS RX3 102 yX3_isIn cX3_isIn 2 (some .boolean) 2 := ⟨⟨wA 244 rfl rfl, wA 238 rfl rfl, wA 26 rfl rfl, wA 239 rfl rfl⟩, by decide +kernel, by decide +kernel, by decide +kernel⟩
set_option maxRecDepth 50000 in
theorem gf_X3_19 {l : Launch} {γ : Gm} {κ : Kx} {cc : ByteArray} {nL f ll : Nat} (C : Ok γ κ cc nL RX3 f ll) {ws : va_W} {lv : List (Nat × Value)} {k n pc pc' a : Nat} {st : List Value} {fs : List Value} {v : Value} (d : decode cc pc = .ok (.getfield 19, 3)) (hp : pc' = pc + 3) (q0 : Nat) (he : ws[q0]? = some (a, .inr (3, fs))) (hv : fs[1]? = some v) (kk : G l γ κ ws lv k n (v :: st) pc') : G l γ κ ws lv k n (.ref a :: st) pc := g_get (kf := 1) C aX3 rfl (by decide) (wA (w := Cond.fieldLink RX3 19 (TX3 1).1 (TX3 1).2.1 (TX3 1).2.2.1) 91 rfl rfl) d hp q0 he hv kk
set_option maxRecDepth 50000 in
theorem lk_X3_108 : LkV RX3 108 yX0_put cX0_put 8 (some .int) 5 := ⟨⟨wA 314 rfl rfl, wA 315 rfl rfl, wA 316 rfl rfl, wA 28 rfl rfl, wA 317 rfl rfl⟩, by decide +kernel, by decide +kernel, by decide +kernel⟩
set_option maxRecDepth 50000 in
theorem gf_X3_23 {l : Launch} {γ : Gm} {κ : Kx} {cc : ByteArray} {nL f ll : Nat} (C : Ok γ κ cc nL RX3 f ll) {ws : va_W} {lv : List (Nat × Value)} {k n pc pc' a : Nat} {st : List Value} {fs : List Value} {v : Value} (d : decode cc pc = .ok (.getfield 23, 3)) (hp : pc' = pc + 3) (q0 : Nat) (he : ws[q0]? = some (a, .inr (3, fs))) (hv : fs[2]? = some v) (kk : G l γ κ ws lv k n (v :: st) pc') : G l γ κ ws lv k n (.ref a :: st) pc := g_get (kf := 2) C aX3 rfl (by decide) (wA (w := Cond.fieldLink RX3 23 (TX3 2).1 (TX3 2).2.1 (TX3 2).2.2.1) 92 rfl rfl) d hp q0 he hv kk
set_option maxRecDepth 50000 in
theorem k_X3_112 : Cond.constant RX3 112 1000000 ∈ wsA := wA 288 rfl rfl
set_option maxRecDepth 50000 in
theorem lk_X3_113 : LkV RX3 113 yX3_checkSpreadable cX3_checkSpreadable 5 none 4 := ⟨⟨wA 342 rfl rfl, wA 344 rfl rfl, wA 4 rfl rfl, wA 26 rfl rfl, wA 345 rfl rfl⟩, by decide +kernel, by decide +kernel, by decide +kernel⟩
set_option maxRecDepth 50000 in
theorem lk_X3_117 : LkV RX3 117 yX3_spreadOver cX3_spreadOver 11 (some .int) 5 := ⟨⟨wA 369 rfl rfl, wA 371 rfl rfl, wA 7 rfl rfl, wA 26 rfl rfl, wA 372 rfl rfl⟩, by decide +kernel, by decide +kernel, by decide +kernel⟩
set_option maxRecDepth 50000 in
theorem lk_X3_120 : LkV RX3 120 yX1_totalWeight cX1_totalWeight 3 (some .int) 0 := ⟨⟨wA 397 rfl rfl, wA 383 rfl rfl, wA 384 rfl rfl, wA 29 rfl rfl, wA 385 rfl rfl⟩, by decide +kernel, by decide +kernel, by decide +kernel⟩
set_option maxRecDepth 50000 in
theorem lk_X3_125 : LkV RX3 125 yX1_divide cX1_divide 5 none 1 := ⟨⟨wA 378 rfl rfl, wA 379 rfl rfl, wA 380 rfl rfl, wA 29 rfl rfl, wA 381 rfl rfl⟩, by decide +kernel, by decide +kernel, by decide +kernel⟩
set_option maxRecDepth 50000 in
theorem lk_X3_128 : LkV RX3 128 yX1_shareOf cX1_shareOf 2 (some .int) 1 := ⟨⟨wA 386 rfl rfl, wA 387 rfl rfl, wA 388 rfl rfl, wA 29 rfl rfl, wA 389 rfl rfl⟩, by decide +kernel, by decide +kernel, by decide +kernel⟩
set_option maxRecDepth 50000 in
theorem lk_X3_138 : LkV RX3 138 yX0_copyLayer cX0_copyLayer 7 (some .int) 2 := ⟨⟨wA 408 rfl rfl, wA 409 rfl rfl, wA 410 rfl rfl, wA 28 rfl rfl, wA 411 rfl rfl⟩, by decide +kernel, by decide +kernel, by decide +kernel⟩
set_option maxRecDepth 50000 in
theorem lk_X3_141 : LkS RX3 141 yJ6_bitCount_0f7a4 cJ6_bitCount_0f7a4 1 (some .int) 1 := ⟨⟨wA 419 rfl rfl, wA 420 rfl rfl, wA 37 rfl rfl, wA 421 rfl rfl⟩, by decide +kernel, by decide +kernel, by decide +kernel⟩
set_option maxRecDepth 50000 in
theorem gf_X3_40 {l : Launch} {γ : Gm} {κ : Kx} {cc : ByteArray} {nL f ll : Nat} (C : Ok γ κ cc nL RX3 f ll) {ws : va_W} {lv : List (Nat × Value)} {k n pc pc' a : Nat} {st : List Value} {fs : List Value} {v : Value} (d : decode cc pc = .ok (.getfield 40, 3)) (hp : pc' = pc + 3) (q0 : Nat) (he : ws[q0]? = some (a, .inr (3, fs))) (hv : fs[6]? = some v) (kk : G l γ κ ws lv k n (v :: st) pc') : G l γ κ ws lv k n (.ref a :: st) pc := g_get (kf := 6) C aX3 rfl (by decide) (wA (w := Cond.fieldLink RX3 40 (TX3 6).1 (TX3 6).2.1 (TX3 6).2.2.1) 96 rfl rfl) d hp q0 he hv kk
set_option maxRecDepth 50000 in
theorem lk_X3_148 : LkS RX3 148 yX3_checkAccount cX3_checkAccount 1 none 1 := ⟨⟨wA 454 rfl rfl, wA 455 rfl rfl, wA 26 rfl rfl, wA 456 rfl rfl⟩, by decide +kernel, by decide +kernel, by decide +kernel⟩
set_option maxRecDepth 50000 in
theorem lk_X3_151 : LkV RX3 151 yX0_sumOver cX0_sumOver 7 (some .int) 4 := ⟨⟨wA 355 rfl rfl, wA 356 rfl rfl, wA 357 rfl rfl, wA 28 rfl rfl, wA 358 rfl rfl⟩, by decide +kernel, by decide +kernel, by decide +kernel⟩
set_option maxRecDepth 50000 in
theorem lk_X3_155 : LkV RX3 155 yX0_yearOf cX0_yearOf 6 (some .int) 3 := ⟨⟨wA 479 rfl rfl, wA 480 rfl rfl, wA 481 rfl rfl, wA 28 rfl rfl, wA 482 rfl rfl⟩, by decide +kernel, by decide +kernel, by decide +kernel⟩
set_option maxRecDepth 50000 in
theorem lk_X3_159 : LkV RX3 159 yX0_countFilled cX0_countFilled 3 (some .int) 0 := ⟨⟨wA 124 rfl rfl, wA 125 rfl rfl, wA 126 rfl rfl, wA 28 rfl rfl, wA 127 rfl rfl⟩, by decide +kernel, by decide +kernel, by decide +kernel⟩
set_option maxRecDepth 50000 in
theorem lk_X3_162 : LkV RX3 162 yX3_gapOfLeaf cX3_gapOfLeaf 11 (some .int) 4 := ⟨⟨wA 490 rfl rfl, wA 492 rfl rfl, wA 9 rfl rfl, wA 26 rfl rfl, wA 493 rfl rfl⟩, by decide +kernel, by decide +kernel, by decide +kernel⟩
set_option maxRecDepth 50000 in
theorem lk_X3_165 : LkV RX3 165 yX0_at cX0_at 5 (some .int) 4 := ⟨⟨wA 377 rfl rfl, wA 365 rfl rfl, wA 366 rfl rfl, wA 28 rfl rfl, wA 367 rfl rfl⟩, by decide +kernel, by decide +kernel, by decide +kernel⟩
set_option maxRecDepth 50000 in
theorem lk_X3_168 : LkS RX3 168 yX3_gapPart cX3_gapPart 5 (some .int) 5 := ⟨⟨wA 494 rfl rfl, wA 495 rfl rfl, wA 26 rfl rfl, wA 496 rfl rfl⟩, by decide +kernel, by decide +kernel, by decide +kernel⟩
set_option maxRecDepth 50000 in
theorem lk_X3_171 : LkV RX3 171 yX0_isBlank cX0_isBlank 4 (some .boolean) 1 := ⟨⟨wA 245 rfl rfl, wA 246 rfl rfl, wA 247 rfl rfl, wA 28 rfl rfl, wA 248 rfl rfl⟩, by decide +kernel, by decide +kernel, by decide +kernel⟩
set_option maxRecDepth 50000 in
theorem lk_X3_174 : LkV RX3 174 yX3_freeAmong cX3_freeAmong 4 (some .int) 3 := ⟨⟨wA 346 rfl rfl, wA 348 rfl rfl, wA 5 rfl rfl, wA 26 rfl rfl, wA 349 rfl rfl⟩, by decide +kernel, by decide +kernel, by decide +kernel⟩
set_option maxRecDepth 50000 in
theorem lk_X3_179 : LkV RX3 179 yX3_restOf cX3_restOf 6 (some .int) 4 := ⟨⟨wA 351 rfl rfl, wA 353 rfl rfl, wA 6 rfl rfl, wA 26 rfl rfl, wA 354 rfl rfl⟩, by decide +kernel, by decide +kernel, by decide +kernel⟩
set_option maxRecDepth 50000 in
theorem lk_X3_184 : LkV RX3 184 yX3_weighLeaves cX3_weighLeaves 8 none 4 := ⟨⟨wA 373 rfl rfl, wA 375 rfl rfl, wA 8 rfl rfl, wA 26 rfl rfl, wA 376 rfl rfl⟩, by decide +kernel, by decide +kernel, by decide +kernel⟩
set_option maxRecDepth 50000 in
theorem gf_X3_37 {l : Launch} {γ : Gm} {κ : Kx} {cc : ByteArray} {nL f ll : Nat} (C : Ok γ κ cc nL RX3 f ll) {ws : va_W} {lv : List (Nat × Value)} {k n pc pc' a : Nat} {st : List Value} {fs : List Value} {v : Value} (d : decode cc pc = .ok (.getfield 37, 3)) (hp : pc' = pc + 3) (q0 : Nat) (he : ws[q0]? = some (a, .inr (3, fs))) (hv : fs[5]? = some v) (kk : G l γ κ ws lv k n (v :: st) pc') : G l γ κ ws lv k n (.ref a :: st) pc := g_get (kf := 5) C aX3 rfl (by decide) (wA (w := Cond.fieldLink RX3 37 (TX3 5).1 (TX3 5).2.1 (TX3 5).2.2.1) 95 rfl rfl) d hp q0 he hv kk
set_option maxRecDepth 50000 in
theorem lk_X3_192 : LkV RX3 192 yX2_has cX2_has 2 (some .boolean) 1 := ⟨⟨wA 141 rfl rfl, wA 142 rfl rfl, wA 143 rfl rfl, wA 27 rfl rfl, wA 144 rfl rfl⟩, by decide +kernel, by decide +kernel, by decide +kernel⟩
set_option maxRecDepth 50000 in
theorem pf_X4_7 {l : Launch} {γ : Gm} {κ : Kx} {cc : ByteArray} {nL f ll : Nat} (C : Ok γ κ cc nL RX4 f ll) {ws ws' : va_W} {lv : List (Nat × Value)} {k n pc pc' a : Nat} {st : List Value} {fs : List Value} {v : Value} (d : decode cc pc = .ok (.putfield 7, 3)) (hp : pc' = pc + 3) (q0 : Nat) (he : ws[q0]? = some (a, .inr (4, fs))) (hn : narrow (tyX4 0) v = v) (hfit : fits (tyX4 0) v = true) (hl : 0 < fs.length) (hws : ws.set q0 (a, .inr (4, fs.set 0 v)) = ws') (kk : G l γ κ ws' lv k n st pc') : G l γ κ ws lv k n (v :: .ref a :: st) pc := g_put (kf := 0) C aX4 tyX4 tyX4_ok nmX4 rfl (by decide) (wA (w := Cond.fieldLink RX4 7 (TX4 0).1 (TX4 0).2.1 (TX4 0).2.2.1) 503 rfl rfl) rfl (tyX4_ok 0 (by decide)) hn hfit d hp q0 he hl hws kk
set_option maxRecDepth 50000 in
theorem pF_X4_13 {l : Launch} {γ : Gm} {κ : Kx} {cc : ByteArray} {nL f ll : Nat} (C : Ok γ κ cc nL RX4 f ll) {ws ws' : va_W} {lv : List (Nat × Value)} {k n pc pc' a : Nat} {st : List Value} {fs : List Value} {v : Value} (d : decode cc pc = .ok (.putfield 13, 3)) (hp : pc' = pc + 3) (q0 : Nat) (he : ws[q0]? = some (a, .inr (4, fs))) (hin2 : κ.meth.name = "<init>") (hn : narrow (tyX4 1) v = v) (hfit : fits (tyX4 1) v = true) (hl : 1 < fs.length) (hws : ws.set q0 (a, .inr (4, fs.set 1 v)) = ws') (kk : G l γ κ ws' lv k n st pc') : G l γ κ ws lv k n (v :: .ref a :: st) pc := g_putF (kf := 1) C aX4 tyX4 tyX4_ok nmX4 rfl (by decide) (wA (w := Cond.fieldLink RX4 13 (TX4 1).1 (TX4 1).2.1 (TX4 1).2.2.1) 504 rfl rfl) rfl rfl (tyX4_ok 1 (by decide)) hin2 hn hfit d hp q0 he hl hws kk
set_option maxRecDepth 50000 in
theorem pF_X4_17 {l : Launch} {γ : Gm} {κ : Kx} {cc : ByteArray} {nL f ll : Nat} (C : Ok γ κ cc nL RX4 f ll) {ws ws' : va_W} {lv : List (Nat × Value)} {k n pc pc' a : Nat} {st : List Value} {fs : List Value} {v : Value} (d : decode cc pc = .ok (.putfield 17, 3)) (hp : pc' = pc + 3) (q0 : Nat) (he : ws[q0]? = some (a, .inr (4, fs))) (hin2 : κ.meth.name = "<init>") (hn : narrow (tyX4 2) v = v) (hfit : fits (tyX4 2) v = true) (hl : 2 < fs.length) (hws : ws.set q0 (a, .inr (4, fs.set 2 v)) = ws') (kk : G l γ κ ws' lv k n st pc') : G l γ κ ws lv k n (v :: .ref a :: st) pc := g_putF (kf := 2) C aX4 tyX4 tyX4_ok nmX4 rfl (by decide) (wA (w := Cond.fieldLink RX4 17 (TX4 2).1 (TX4 2).2.1 (TX4 2).2.2.1) 505 rfl rfl) rfl rfl (tyX4_ok 2 (by decide)) hin2 hn hfit d hp q0 he hl hws kk
set_option maxRecDepth 50000 in
theorem pF_X4_20 {l : Launch} {γ : Gm} {κ : Kx} {cc : ByteArray} {nL f ll : Nat} (C : Ok γ κ cc nL RX4 f ll) {ws ws' : va_W} {lv : List (Nat × Value)} {k n pc pc' a : Nat} {st : List Value} {fs : List Value} {v : Value} (d : decode cc pc = .ok (.putfield 20, 3)) (hp : pc' = pc + 3) (q0 : Nat) (he : ws[q0]? = some (a, .inr (4, fs))) (hin2 : κ.meth.name = "<init>") (hn : narrow (tyX4 3) v = v) (hfit : fits (tyX4 3) v = true) (hl : 3 < fs.length) (hws : ws.set q0 (a, .inr (4, fs.set 3 v)) = ws') (kk : G l γ κ ws' lv k n st pc') : G l γ κ ws lv k n (v :: .ref a :: st) pc := g_putF (kf := 3) C aX4 tyX4 tyX4_ok nmX4 rfl (by decide) (wA (w := Cond.fieldLink RX4 20 (TX4 3).1 (TX4 3).2.1 (TX4 3).2.2.1) 506 rfl rfl) rfl rfl (tyX4_ok 3 (by decide)) hin2 hn hfit d hp q0 he hl hws kk
set_option maxRecDepth 50000 in
theorem pF_X4_23 {l : Launch} {γ : Gm} {κ : Kx} {cc : ByteArray} {nL f ll : Nat} (C : Ok γ κ cc nL RX4 f ll) {ws ws' : va_W} {lv : List (Nat × Value)} {k n pc pc' a : Nat} {st : List Value} {fs : List Value} {v : Value} (d : decode cc pc = .ok (.putfield 23, 3)) (hp : pc' = pc + 3) (q0 : Nat) (he : ws[q0]? = some (a, .inr (4, fs))) (hin2 : κ.meth.name = "<init>") (hn : narrow (tyX4 4) v = v) (hfit : fits (tyX4 4) v = true) (hl : 4 < fs.length) (hws : ws.set q0 (a, .inr (4, fs.set 4 v)) = ws') (kk : G l γ κ ws' lv k n st pc') : G l γ κ ws lv k n (v :: .ref a :: st) pc := g_putF (kf := 4) C aX4 tyX4 tyX4_ok nmX4 rfl (by decide) (wA (w := Cond.fieldLink RX4 23 (TX4 4).1 (TX4 4).2.1 (TX4 4).2.2.1) 507 rfl rfl) rfl rfl (tyX4_ok 4 (by decide)) hin2 hn hfit d hp q0 he hl hws kk
set_option maxRecDepth 50000 in
theorem pF_X4_26 {l : Launch} {γ : Gm} {κ : Kx} {cc : ByteArray} {nL f ll : Nat} (C : Ok γ κ cc nL RX4 f ll) {ws ws' : va_W} {lv : List (Nat × Value)} {k n pc pc' a : Nat} {st : List Value} {fs : List Value} {v : Value} (d : decode cc pc = .ok (.putfield 26, 3)) (hp : pc' = pc + 3) (q0 : Nat) (he : ws[q0]? = some (a, .inr (4, fs))) (hin2 : κ.meth.name = "<init>") (hn : narrow (tyX4 5) v = v) (hfit : fits (tyX4 5) v = true) (hl : 5 < fs.length) (hws : ws.set q0 (a, .inr (4, fs.set 5 v)) = ws') (kk : G l γ κ ws' lv k n st pc') : G l γ κ ws lv k n (v :: .ref a :: st) pc := g_putF (kf := 5) C aX4 tyX4 tyX4_ok nmX4 rfl (by decide) (wA (w := Cond.fieldLink RX4 26 (TX4 5).1 (TX4 5).2.1 (TX4 5).2.2.1) 508 rfl rfl) rfl rfl (tyX4_ok 5 (by decide)) hin2 hn hfit d hp q0 he hl hws kk
set_option maxRecDepth 50000 in
theorem pF_X4_29 {l : Launch} {γ : Gm} {κ : Kx} {cc : ByteArray} {nL f ll : Nat} (C : Ok γ κ cc nL RX4 f ll) {ws ws' : va_W} {lv : List (Nat × Value)} {k n pc pc' a : Nat} {st : List Value} {fs : List Value} {v : Value} (d : decode cc pc = .ok (.putfield 29, 3)) (hp : pc' = pc + 3) (q0 : Nat) (he : ws[q0]? = some (a, .inr (4, fs))) (hin2 : κ.meth.name = "<init>") (hn : narrow (tyX4 7) v = v) (hfit : fits (tyX4 7) v = true) (hl : 7 < fs.length) (hws : ws.set q0 (a, .inr (4, fs.set 7 v)) = ws') (kk : G l γ κ ws' lv k n st pc') : G l γ κ ws lv k n (v :: .ref a :: st) pc := g_putF (kf := 7) C aX4 tyX4 tyX4_ok nmX4 rfl (by decide) (wA (w := Cond.fieldLink RX4 29 (TX4 7).1 (TX4 7).2.1 (TX4 7).2.2.1) 510 rfl rfl) rfl rfl (tyX4_ok 7 (by decide)) hin2 hn hfit d hp q0 he hl hws kk
set_option maxRecDepth 50000 in
theorem pF_X4_32 {l : Launch} {γ : Gm} {κ : Kx} {cc : ByteArray} {nL f ll : Nat} (C : Ok γ κ cc nL RX4 f ll) {ws ws' : va_W} {lv : List (Nat × Value)} {k n pc pc' a : Nat} {st : List Value} {fs : List Value} {v : Value} (d : decode cc pc = .ok (.putfield 32, 3)) (hp : pc' = pc + 3) (q0 : Nat) (he : ws[q0]? = some (a, .inr (4, fs))) (hin2 : κ.meth.name = "<init>") (hn : narrow (tyX4 8) v = v) (hfit : fits (tyX4 8) v = true) (hl : 8 < fs.length) (hws : ws.set q0 (a, .inr (4, fs.set 8 v)) = ws') (kk : G l γ κ ws' lv k n st pc') : G l γ κ ws lv k n (v :: .ref a :: st) pc := g_putF (kf := 8) C aX4 tyX4 tyX4_ok nmX4 rfl (by decide) (wA (w := Cond.fieldLink RX4 32 (TX4 8).1 (TX4 8).2.1 (TX4 8).2.2.1) 511 rfl rfl) rfl rfl (tyX4_ok 8 (by decide)) hin2 hn hfit d hp q0 he hl hws kk
set_option maxRecDepth 50000 in
theorem pF_X4_35 {l : Launch} {γ : Gm} {κ : Kx} {cc : ByteArray} {nL f ll : Nat} (C : Ok γ κ cc nL RX4 f ll) {ws ws' : va_W} {lv : List (Nat × Value)} {k n pc pc' a : Nat} {st : List Value} {fs : List Value} {v : Value} (d : decode cc pc = .ok (.putfield 35, 3)) (hp : pc' = pc + 3) (q0 : Nat) (he : ws[q0]? = some (a, .inr (4, fs))) (hin2 : κ.meth.name = "<init>") (hn : narrow (tyX4 9) v = v) (hfit : fits (tyX4 9) v = true) (hl : 9 < fs.length) (hws : ws.set q0 (a, .inr (4, fs.set 9 v)) = ws') (kk : G l γ κ ws' lv k n st pc') : G l γ κ ws lv k n (v :: .ref a :: st) pc := g_putF (kf := 9) C aX4 tyX4 tyX4_ok nmX4 rfl (by decide) (wA (w := Cond.fieldLink RX4 35 (TX4 9).1 (TX4 9).2.1 (TX4 9).2.2.1) 512 rfl rfl) rfl rfl (tyX4_ok 9 (by decide)) hin2 hn hfit d hp q0 he hl hws kk
set_option maxRecDepth 50000 in
theorem gf_X4_13 {l : Launch} {γ : Gm} {κ : Kx} {cc : ByteArray} {nL f ll : Nat} (C : Ok γ κ cc nL RX4 f ll) {ws : va_W} {lv : List (Nat × Value)} {k n pc pc' a : Nat} {st : List Value} {fs : List Value} {v : Value} (d : decode cc pc = .ok (.getfield 13, 3)) (hp : pc' = pc + 3) (q0 : Nat) (he : ws[q0]? = some (a, .inr (4, fs))) (hv : fs[1]? = some v) (kk : G l γ κ ws lv k n (v :: st) pc') : G l γ κ ws lv k n (.ref a :: st) pc := g_get (kf := 1) C aX4 rfl (by decide) (wA (w := Cond.fieldLink RX4 13 (TX4 1).1 (TX4 1).2.1 (TX4 1).2.2.1) 504 rfl rfl) d hp q0 he hv kk
set_option maxRecDepth 50000 in
theorem gf_X4_26 {l : Launch} {γ : Gm} {κ : Kx} {cc : ByteArray} {nL f ll : Nat} (C : Ok γ κ cc nL RX4 f ll) {ws : va_W} {lv : List (Nat × Value)} {k n pc pc' a : Nat} {st : List Value} {fs : List Value} {v : Value} (d : decode cc pc = .ok (.getfield 26, 3)) (hp : pc' = pc + 3) (q0 : Nat) (he : ws[q0]? = some (a, .inr (4, fs))) (hv : fs[5]? = some v) (kk : G l γ κ ws lv k n (v :: st) pc') : G l γ κ ws lv k n (.ref a :: st) pc := g_get (kf := 5) C aX4 rfl (by decide) (wA (w := Cond.fieldLink RX4 26 (TX4 5).1 (TX4 5).2.1 (TX4 5).2.2.1) 508 rfl rfl) d hp q0 he hv kk
set_option maxRecDepth 50000 in
theorem gf_X4_38 {l : Launch} {γ : Gm} {κ : Kx} {cc : ByteArray} {nL f ll : Nat} (C : Ok γ κ cc nL RX4 f ll) {ws : va_W} {lv : List (Nat × Value)} {k n pc pc' a : Nat} {st : List Value} {fs : List Value} {v : Value} (d : decode cc pc = .ok (.getfield 38, 3)) (hp : pc' = pc + 3) (q0 : Nat) (he : ws[q0]? = some (a, .inr (4, fs))) (hv : fs[10]? = some v) (kk : G l γ κ ws lv k n (v :: st) pc') : G l γ κ ws lv k n (.ref a :: st) pc := g_get (kf := 10) C aX4 rfl (by decide) (wA (w := Cond.fieldLink RX4 38 (TX4 10).1 (TX4 10).2.1 (TX4 10).2.2.1) 513 rfl rfl) d hp q0 he hv kk
set_option maxRecDepth 50000 in
theorem pf_X4_38 {l : Launch} {γ : Gm} {κ : Kx} {cc : ByteArray} {nL f ll : Nat} (C : Ok γ κ cc nL RX4 f ll) {ws ws' : va_W} {lv : List (Nat × Value)} {k n pc pc' a : Nat} {st : List Value} {fs : List Value} {v : Value} (d : decode cc pc = .ok (.putfield 38, 3)) (hp : pc' = pc + 3) (q0 : Nat) (he : ws[q0]? = some (a, .inr (4, fs))) (hn : narrow (tyX4 10) v = v) (hfit : fits (tyX4 10) v = true) (hl : 10 < fs.length) (hws : ws.set q0 (a, .inr (4, fs.set 10 v)) = ws') (kk : G l γ κ ws' lv k n st pc') : G l γ κ ws lv k n (v :: .ref a :: st) pc := g_put (kf := 10) C aX4 tyX4 tyX4_ok nmX4 rfl (by decide) (wA (w := Cond.fieldLink RX4 38 (TX4 10).1 (TX4 10).2.1 (TX4 10).2.2.1) 513 rfl rfl) rfl (tyX4_ok 10 (by decide)) hn hfit d hp q0 he hl hws kk
set_option maxRecDepth 50000 in
theorem lk_X4_41 : LkS RX4 41 yX4_in cX4_in 3 (some .boolean) 3 := ⟨⟨wA 549 rfl rfl, wA 550 rfl rfl, wA 30 rfl rfl, wA 551 rfl rfl⟩, by decide +kernel, by decide +kernel, by decide +kernel⟩
set_option maxRecDepth 50000 in
theorem gf_X4_7 {l : Launch} {γ : Gm} {κ : Kx} {cc : ByteArray} {nL f ll : Nat} (C : Ok γ κ cc nL RX4 f ll) {ws : va_W} {lv : List (Nat × Value)} {k n pc pc' a : Nat} {st : List Value} {fs : List Value} {v : Value} (d : decode cc pc = .ok (.getfield 7, 3)) (hp : pc' = pc + 3) (q0 : Nat) (he : ws[q0]? = some (a, .inr (4, fs))) (hv : fs[0]? = some v) (kk : G l γ κ ws lv k n (v :: st) pc') : G l γ κ ws lv k n (.ref a :: st) pc := g_get (kf := 0) C aX4 rfl (by decide) (wA (w := Cond.fieldLink RX4 7 (TX4 0).1 (TX4 0).2.1 (TX4 0).2.2.1) 503 rfl rfl) d hp q0 he hv kk
set_option maxRecDepth 50000 in
theorem lk_X4_45 : LkV RX4 45 yX4_isLeaf cX4_isLeaf 4 (some .boolean) 1 := ⟨⟨wA 552 rfl rfl, wA 554 rfl rfl, wA 11 rfl rfl, wA 30 rfl rfl, wA 555 rfl rfl⟩, by decide +kernel, by decide +kernel, by decide +kernel⟩
set_option maxRecDepth 50000 in
theorem lk_X4_49 : LkV RX4 49 yX4_isBelow cX4_isBelow 4 (some .boolean) 2 := ⟨⟨wA 575 rfl rfl, wA 577 rfl rfl, wA 14 rfl rfl, wA 30 rfl rfl, wA 578 rfl rfl⟩, by decide +kernel, by decide +kernel, by decide +kernel⟩
set_option maxRecDepth 50000 in
theorem gf_X4_17 {l : Launch} {γ : Gm} {κ : Kx} {cc : ByteArray} {nL f ll : Nat} (C : Ok γ κ cc nL RX4 f ll) {ws : va_W} {lv : List (Nat × Value)} {k n pc pc' a : Nat} {st : List Value} {fs : List Value} {v : Value} (d : decode cc pc = .ok (.getfield 17, 3)) (hp : pc' = pc + 3) (q0 : Nat) (he : ws[q0]? = some (a, .inr (4, fs))) (hv : fs[2]? = some v) (kk : G l γ κ ws lv k n (v :: st) pc') : G l γ κ ws lv k n (.ref a :: st) pc := g_get (kf := 2) C aX4 rfl (by decide) (wA (w := Cond.fieldLink RX4 17 (TX4 2).1 (TX4 2).2.1 (TX4 2).2.2.1) 505 rfl rfl) d hp q0 he hv kk
set_option maxRecDepth 50000 in
theorem lk_X4_53 : LkS RX4 53 yX4_at cX4_at 4 (some .int) 4 := ⟨⟨wA 560 rfl rfl, wA 561 rfl rfl, wA 30 rfl rfl, wA 562 rfl rfl⟩, by decide +kernel, by decide +kernel, by decide +kernel⟩
set_option maxRecDepth 50000 in
theorem gf_X4_23 {l : Launch} {γ : Gm} {κ : Kx} {cc : ByteArray} {nL f ll : Nat} (C : Ok γ κ cc nL RX4 f ll) {ws : va_W} {lv : List (Nat × Value)} {k n pc pc' a : Nat} {st : List Value} {fs : List Value} {v : Value} (d : decode cc pc = .ok (.getfield 23, 3)) (hp : pc' = pc + 3) (q0 : Nat) (he : ws[q0]? = some (a, .inr (4, fs))) (hv : fs[4]? = some v) (kk : G l γ κ ws lv k n (v :: st) pc') : G l γ κ ws lv k n (.ref a :: st) pc := g_get (kf := 4) C aX4 rfl (by decide) (wA (w := Cond.fieldLink RX4 23 (TX4 4).1 (TX4 4).2.1 (TX4 4).2.2.1) 507 rfl rfl) d hp q0 he hv kk
set_option maxRecDepth 50000 in
theorem gf_X4_20 {l : Launch} {γ : Gm} {κ : Kx} {cc : ByteArray} {nL f ll : Nat} (C : Ok γ κ cc nL RX4 f ll) {ws : va_W} {lv : List (Nat × Value)} {k n pc pc' a : Nat} {st : List Value} {fs : List Value} {v : Value} (d : decode cc pc = .ok (.getfield 20, 3)) (hp : pc' = pc + 3) (q0 : Nat) (he : ws[q0]? = some (a, .inr (4, fs))) (hv : fs[3]? = some v) (kk : G l γ κ ws lv k n (v :: st) pc') : G l γ κ ws lv k n (.ref a :: st) pc := g_get (kf := 3) C aX4 rfl (by decide) (wA (w := Cond.fieldLink RX4 20 (TX4 3).1 (TX4 3).2.1 (TX4 3).2.2.1) 506 rfl rfl) d hp q0 he hv kk
set_option maxRecDepth 50000 in
theorem lk_X4_57 : LkV RX4 57 yX4_isPlace cX4_isPlace 2 (some .boolean) 1 := ⟨⟨wA 545 rfl rfl, wA 547 rfl rfl, wA 10 rfl rfl, wA 30 rfl rfl, wA 548 rfl rfl⟩, by decide +kernel, by decide +kernel, by decide +kernel⟩
set_option maxRecDepth 50000 in
theorem lk_X4_60 : LkV RX4 60 yX4_isUntouched cX4_isUntouched 5 (some .boolean) 1 := ⟨⟨wA 556 rfl rfl, wA 558 rfl rfl, wA 12 rfl rfl, wA 30 rfl rfl, wA 559 rfl rfl⟩, by decide +kernel, by decide +kernel, by decide +kernel⟩
set_option maxRecDepth 50000 in
theorem lk_X4_63 : LkV RX4 63 yX4_isLeafOf cX4_isLeafOf 3 (some .boolean) 2 := ⟨⟨wA 571 rfl rfl, wA 573 rfl rfl, wA 13 rfl rfl, wA 30 rfl rfl, wA 574 rfl rfl⟩, by decide +kernel, by decide +kernel, by decide +kernel⟩
set_option maxRecDepth 50000 in
theorem k_X4_66 : Cond.constant RX4 66 1000000 ∈ wsA := wA 592 rfl rfl
set_option maxRecDepth 50000 in
theorem lk_X4_67 : LkS RX4 67 yX4_isVersion cX4_isVersion 1 (some .boolean) 1 := ⟨⟨wA 583 rfl rfl, wA 584 rfl rfl, wA 30 rfl rfl, wA 585 rfl rfl⟩, by decide +kernel, by decide +kernel, by decide +kernel⟩
set_option maxRecDepth 50000 in
theorem lk_X4_70 : LkS RX4 70 yX4_isMonth cX4_isMonth 1 (some .boolean) 1 := ⟨⟨wA 586 rfl rfl, wA 587 rfl rfl, wA 30 rfl rfl, wA 588 rfl rfl⟩, by decide +kernel, by decide +kernel, by decide +kernel⟩
set_option maxRecDepth 50000 in
theorem lk_X4_73 : LkS RX4 73 yX4_isAmount cX4_isAmount 2 (some .boolean) 2 := ⟨⟨wA 589 rfl rfl, wA 590 rfl rfl, wA 30 rfl rfl, wA 591 rfl rfl⟩, by decide +kernel, by decide +kernel, by decide +kernel⟩
set_option maxRecDepth 50000 in
theorem lk_X4_76 : LkV RX4 76 yX4_fails cX4_fails 2 (some .int) 1 := ⟨⟨wA 593 rfl rfl, wA 595 rfl rfl, wA 15 rfl rfl, wA 30 rfl rfl, wA 596 rfl rfl⟩, by decide +kernel, by decide +kernel, by decide +kernel⟩
set_option maxRecDepth 50000 in
theorem lk_X4_80 : LkV RX4 80 yX4_puts cX4_puts 4 (some .int) 2 := ⟨⟨wA 597 rfl rfl, wA 599 rfl rfl, wA 16 rfl rfl, wA 30 rfl rfl, wA 600 rfl rfl⟩, by decide +kernel, by decide +kernel, by decide +kernel⟩
set_option maxRecDepth 50000 in
theorem gf_X4_29 {l : Launch} {γ : Gm} {κ : Kx} {cc : ByteArray} {nL f ll : Nat} (C : Ok γ κ cc nL RX4 f ll) {ws : va_W} {lv : List (Nat × Value)} {k n pc pc' a : Nat} {st : List Value} {fs : List Value} {v : Value} (d : decode cc pc = .ok (.getfield 29, 3)) (hp : pc' = pc + 3) (q0 : Nat) (he : ws[q0]? = some (a, .inr (4, fs))) (hv : fs[7]? = some v) (kk : G l γ κ ws lv k n (v :: st) pc') : G l γ κ ws lv k n (.ref a :: st) pc := g_get (kf := 7) C aX4 rfl (by decide) (wA (w := Cond.fieldLink RX4 29 (TX4 7).1 (TX4 7).2.1 (TX4 7).2.2.1) 510 rfl rfl) d hp q0 he hv kk
set_option maxRecDepth 50000 in
theorem gf_X4_32 {l : Launch} {γ : Gm} {κ : Kx} {cc : ByteArray} {nL f ll : Nat} (C : Ok γ κ cc nL RX4 f ll) {ws : va_W} {lv : List (Nat × Value)} {k n pc pc' a : Nat} {st : List Value} {fs : List Value} {v : Value} (d : decode cc pc = .ok (.getfield 32, 3)) (hp : pc' = pc + 3) (q0 : Nat) (he : ws[q0]? = some (a, .inr (4, fs))) (hv : fs[8]? = some v) (kk : G l γ κ ws lv k n (v :: st) pc') : G l γ κ ws lv k n (.ref a :: st) pc := g_get (kf := 8) C aX4 rfl (by decide) (wA (w := Cond.fieldLink RX4 32 (TX4 8).1 (TX4 8).2.1 (TX4 8).2.2.1) 511 rfl rfl) d hp q0 he hv kk
set_option maxRecDepth 50000 in
theorem lk_X4_84 : LkV RX4 84 yX4_isFree cX4_isFree 4 (some .boolean) 3 := ⟨⟨wA 617 rfl rfl, wA 619 rfl rfl, wA 18 rfl rfl, wA 30 rfl rfl, wA 620 rfl rfl⟩, by decide +kernel, by decide +kernel, by decide +kernel⟩
set_option maxRecDepth 50000 in
theorem lk_X4_87 : LkV RX4 87 yX4_restOf cX4_restOf 9 (some .int) 4 := ⟨⟨wA 613 rfl rfl, wA 615 rfl rfl, wA 17 rfl rfl, wA 30 rfl rfl, wA 616 rfl rfl⟩, by decide +kernel, by decide +kernel, by decide +kernel⟩
set_option maxRecDepth 50000 in
theorem lk_X4_90 : LkV RX4 90 yX4_shares cX4_shares 7 none 2 := ⟨⟨wA 625 rfl rfl, wA 627 rfl rfl, wA 20 rfl rfl, wA 30 rfl rfl, wA 628 rfl rfl⟩, by decide +kernel, by decide +kernel, by decide +kernel⟩
set_option maxRecDepth 50000 in
theorem lk_X4_93 : LkV RX4 93 yX4_spreads cX4_spreads 9 (some .int) 5 := ⟨⟨wA 621 rfl rfl, wA 623 rfl rfl, wA 19 rfl rfl, wA 30 rfl rfl, wA 624 rfl rfl⟩, by decide +kernel, by decide +kernel, by decide +kernel⟩
set_option maxRecDepth 50000 in
theorem gf_X4_35 {l : Launch} {γ : Gm} {κ : Kx} {cc : ByteArray} {nL f ll : Nat} (C : Ok γ κ cc nL RX4 f ll) {ws : va_W} {lv : List (Nat × Value)} {k n pc pc' a : Nat} {st : List Value} {fs : List Value} {v : Value} (d : decode cc pc = .ok (.getfield 35, 3)) (hp : pc' = pc + 3) (q0 : Nat) (he : ws[q0]? = some (a, .inr (4, fs))) (hv : fs[9]? = some v) (kk : G l γ κ ws lv k n (v :: st) pc') : G l γ κ ws lv k n (.ref a :: st) pc := g_get (kf := 9) C aX4 rfl (by decide) (wA (w := Cond.fieldLink RX4 35 (TX4 9).1 (TX4 9).2.1 (TX4 9).2.2.1) 512 rfl rfl) d hp q0 he hv kk
set_option maxRecDepth 50000 in
theorem lk_X4_97 : LkV RX4 97 yX4_closes cX4_closes 6 (some .int) 3 := ⟨⟨wA 641 rfl rfl, wA 643 rfl rfl, wA 21 rfl rfl, wA 30 rfl rfl, wA 644 rfl rfl⟩, by decide +kernel, by decide +kernel, by decide +kernel⟩
set_option maxRecDepth 50000 in
theorem gf_X4_101 {l : Launch} {γ : Gm} {κ : Kx} {cc : ByteArray} {nL f ll : Nat} (C : Ok γ κ cc nL RX4 f ll) {ws : va_W} {lv : List (Nat × Value)} {k n pc pc' a : Nat} {st : List Value} {fs : List Value} {v : Value} (d : decode cc pc = .ok (.getfield 101, 3)) (hp : pc' = pc + 3) (q0 : Nat) (he : ws[q0]? = some (a, .inr (4, fs))) (hv : fs[6]? = some v) (kk : G l γ κ ws lv k n (v :: st) pc') : G l γ κ ws lv k n (.ref a :: st) pc := g_get (kf := 6) C aX4 rfl (by decide) (wA (w := Cond.fieldLink RX4 101 (TX4 6).1 (TX4 6).2.1 (TX4 6).2.2.1) 509 rfl rfl) d hp q0 he hv kk
set_option maxRecDepth 50000 in
theorem pf_X4_101 {l : Launch} {γ : Gm} {κ : Kx} {cc : ByteArray} {nL f ll : Nat} (C : Ok γ κ cc nL RX4 f ll) {ws ws' : va_W} {lv : List (Nat × Value)} {k n pc pc' a : Nat} {st : List Value} {fs : List Value} {v : Value} (d : decode cc pc = .ok (.putfield 101, 3)) (hp : pc' = pc + 3) (q0 : Nat) (he : ws[q0]? = some (a, .inr (4, fs))) (hn : narrow (tyX4 6) v = v) (hfit : fits (tyX4 6) v = true) (hl : 6 < fs.length) (hws : ws.set q0 (a, .inr (4, fs.set 6 v)) = ws') (kk : G l γ κ ws' lv k n st pc') : G l γ κ ws lv k n (v :: .ref a :: st) pc := g_put (kf := 6) C aX4 tyX4 tyX4_ok nmX4 rfl (by decide) (wA (w := Cond.fieldLink RX4 101 (TX4 6).1 (TX4 6).2.1 (TX4 6).2.2.1) 509 rfl rfl) rfl (tyX4_ok 6 (by decide)) hn hfit d hp q0 he hl hws kk
set_option maxRecDepth 50000 in
theorem lk_X4_104 : LkV RX4 104 yX4_ofLeaf cX4_ofLeaf 5 (some .int) 4 := ⟨⟨wA 669 rfl rfl, wA 671 rfl rfl, wA 24 rfl rfl, wA 30 rfl rfl, wA 672 rfl rfl⟩, by decide +kernel, by decide +kernel, by decide +kernel⟩
set_option maxRecDepth 50000 in
theorem lk_X4_107 : LkV RX4 107 yX4_isAsked cX4_isAsked 5 (some .boolean) 4 := ⟨⟨wA 661 rfl rfl, wA 663 rfl rfl, wA 22 rfl rfl, wA 30 rfl rfl, wA 664 rfl rfl⟩, by decide +kernel, by decide +kernel, by decide +kernel⟩
set_option maxRecDepth 50000 in
theorem lk_X4_111 : LkV RX4 111 yX4_sumOf cX4_sumOf 7 (some .int) 4 := ⟨⟨wA 665 rfl rfl, wA 667 rfl rfl, wA 23 rfl rfl, wA 30 rfl rfl, wA 668 rfl rfl⟩, by decide +kernel, by decide +kernel, by decide +kernel⟩
set_option maxRecDepth 50000 in
theorem lk_X4_114 : LkV RX4 114 yX4_year cX4_year 6 (some .int) 3 := ⟨⟨wA 685 rfl rfl, wA 678 rfl rfl, wA 679 rfl rfl, wA 30 rfl rfl, wA 680 rfl rfl⟩, by decide +kernel, by decide +kernel, by decide +kernel⟩
set_option maxRecDepth 50000 in
theorem lk_X4_117 : LkS RX4 117 yX4_partOf cX4_partOf 5 (some .int) 5 := ⟨⟨wA 694 rfl rfl, wA 695 rfl rfl, wA 30 rfl rfl, wA 696 rfl rfl⟩, by decide +kernel, by decide +kernel, by decide +kernel⟩
set_option maxRecDepth 50000 in
theorem k_J6_265 : Cond.constant RJ6 265 1431655765 ∈ wsA := wA 422 rfl rfl
set_option maxRecDepth 50000 in
theorem k_J6_266 : Cond.constant RJ6 266 858993459 ∈ wsA := wA 423 rfl rfl
set_option maxRecDepth 50000 in
theorem k_J6_267 : Cond.constant RJ6 267 252645135 ∈ wsA := wA 424 rfl rfl
set_option maxRecDepth 50000 in
theorem lk_L_7 : LkV RL 7 yX3_addPlace cX3_addPlace 2 (some .int) 1 := ⟨⟨wA 133 rfl rfl, wA 134 rfl rfl, wA 135 rfl rfl, wA 26 rfl rfl, wA 136 rfl rfl⟩, by decide +kernel, by decide +kernel, by decide +kernel⟩
set_option maxRecDepth 50000 in
theorem lk_L_17 : LkV RL 17 yX3_leaves cX3_leaves 2 (some .int) 1 := ⟨⟨wA 257 rfl rfl, wA 258 rfl rfl, wA 259 rfl rfl, wA 26 rfl rfl, wA 260 rfl rfl⟩, by decide +kernel, by decide +kernel, by decide +kernel⟩
set_option maxRecDepth 50000 in
theorem lk_L_20 : LkV RL 20 yX3_set cX3_set 6 (some .int) 5 := ⟨⟨wA 269 rfl rfl, wA 270 rfl rfl, wA 271 rfl rfl, wA 26 rfl rfl, wA 272 rfl rfl⟩, by decide +kernel, by decide +kernel, by decide +kernel⟩
set_option maxRecDepth 50000 in
theorem lk_L_26 : LkV RL 26 yX3_hold cX3_hold 6 (some .boolean) 3 := ⟨⟨wA 324 rfl rfl, wA 325 rfl rfl, wA 326 rfl rfl, wA 26 rfl rfl, wA 327 rfl rfl⟩, by decide +kernel, by decide +kernel, by decide +kernel⟩
set_option maxRecDepth 50000 in
theorem lk_L_30 : LkV RL 30 yX3_setSeason cX3_setSeason 3 (some .int) 2 := ⟨⟨wA 331 rfl rfl, wA 332 rfl rfl, wA 333 rfl rfl, wA 26 rfl rfl, wA 334 rfl rfl⟩, by decide +kernel, by decide +kernel, by decide +kernel⟩
set_option maxRecDepth 50000 in
theorem lk_L_34 : LkV RL 34 yX3_spread cX3_spread 7 (some .int) 5 := ⟨⟨wA 338 rfl rfl, wA 339 rfl rfl, wA 340 rfl rfl, wA 26 rfl rfl, wA 341 rfl rfl⟩, by decide +kernel, by decide +kernel, by decide +kernel⟩
set_option maxRecDepth 50000 in
theorem lk_L_37 : LkV RL 37 yX3_spreadYear cX3_spreadYear 7 (some .int) 3 := ⟨⟨wA 393 rfl rfl, wA 394 rfl rfl, wA 395 rfl rfl, wA 26 rfl rfl, wA 396 rfl rfl⟩, by decide +kernel, by decide +kernel, by decide +kernel⟩
set_option maxRecDepth 50000 in
theorem lk_L_41 : LkV RL 41 yX3_copy cX3_copy 3 (some .int) 2 := ⟨⟨wA 402 rfl rfl, wA 403 rfl rfl, wA 404 rfl rfl, wA 26 rfl rfl, wA 405 rfl rfl⟩, by decide +kernel, by decide +kernel, by decide +kernel⟩
set_option maxRecDepth 50000 in
theorem lk_L_44 : LkV RL 44 yX3_handIn cX3_handIn 4 (some .int) 2 := ⟨⟨wA 415 rfl rfl, wA 416 rfl rfl, wA 417 rfl rfl, wA 26 rfl rfl, wA 418 rfl rfl⟩, by decide +kernel, by decide +kernel, by decide +kernel⟩
set_option maxRecDepth 50000 in
theorem lk_L_47 : LkV RL 47 yX3_takeBack cX3_takeBack 4 (some .int) 2 := ⟨⟨wA 428 rfl rfl, wA 429 rfl rfl, wA 430 rfl rfl, wA 26 rfl rfl, wA 431 rfl rfl⟩, by decide +kernel, by decide +kernel, by decide +kernel⟩
set_option maxRecDepth 50000 in
theorem lk_L_50 : LkV RL 50 yX3_see cX3_see 5 (some .int) 4 := ⟨⟨wA 435 rfl rfl, wA 436 rfl rfl, wA 437 rfl rfl, wA 26 rfl rfl, wA 438 rfl rfl⟩, by decide +kernel, by decide +kernel, by decide +kernel⟩
set_option maxRecDepth 50000 in
theorem lk_L_54 : LkV RL 54 yX3_closeMonth cX3_closeMonth 1 (some .int) 0 := ⟨⟨wA 442 rfl rfl, wA 443 rfl rfl, wA 444 rfl rfl, wA 26 rfl rfl, wA 445 rfl rfl⟩, by decide +kernel, by decide +kernel, by decide +kernel⟩
set_option maxRecDepth 50000 in
theorem lk_L_58 : LkV RL 58 yX3_amount cX3_amount 5 (some .int) 4 := ⟨⟨wA 450 rfl rfl, wA 451 rfl rfl, wA 452 rfl rfl, wA 26 rfl rfl, wA 453 rfl rfl⟩, by decide +kernel, by decide +kernel, by decide +kernel⟩
set_option maxRecDepth 50000 in
theorem lk_L_61 : LkV RL 61 yX3_outlook cX3_outlook 6 (some .int) 4 := ⟨⟨wA 461 rfl rfl, wA 462 rfl rfl, wA 463 rfl rfl, wA 26 rfl rfl, wA 464 rfl rfl⟩, by decide +kernel, by decide +kernel, by decide +kernel⟩
set_option maxRecDepth 50000 in
theorem lk_L_64 : LkV RL 64 yX3_year cX3_year 7 (some .int) 3 := ⟨⟨wA 468 rfl rfl, wA 469 rfl rfl, wA 470 rfl rfl, wA 26 rfl rfl, wA 471 rfl rfl⟩, by decide +kernel, by decide +kernel, by decide +kernel⟩
set_option maxRecDepth 50000 in
theorem lk_L_67 : LkV RL 67 yX3_yearByLeaves cX3_yearByLeaves 7 (some .int) 3 := ⟨⟨wA 475 rfl rfl, wA 476 rfl rfl, wA 477 rfl rfl, wA 26 rfl rfl, wA 478 rfl rfl⟩, by decide +kernel, by decide +kernel, by decide +kernel⟩
set_option maxRecDepth 50000 in
theorem lk_L_70 : LkV RL 70 yX3_gap cX3_gap 8 (some .int) 4 := ⟨⟨wA 486 rfl rfl, wA 487 rfl rfl, wA 488 rfl rfl, wA 26 rfl rfl, wA 489 rfl rfl⟩, by decide +kernel, by decide +kernel, by decide +kernel⟩
set_option maxRecDepth 50000 in
theorem lk_L_73 : LkI RL 73 yX3_init cX3_init 2 0 := ⟨⟨wA 40 rfl rfl, wA 41 rfl rfl, wA 26 rfl rfl, wA 42 rfl rfl⟩, by decide +kernel, by decide +kernel, by decide +kernel⟩
set_option maxRecDepth 50000 in
theorem lk_L_76 : LkI RL 76 yX4_init cX4_init 2 0 := ⟨⟨wA 499 rfl rfl, wA 500 rfl rfl, wA 30 rfl rfl, wA 501 rfl rfl⟩, by decide +kernel, by decide +kernel, by decide +kernel⟩
set_option maxRecDepth 50000 in
theorem lk_L_77 : LkH RL 77 yL_addPlace cL_addPlace 4 (some .int) [(0, 9, 12, 13), (0, 9, 15, 15)] 3 := ⟨⟨wA 128 rfl rfl, wA 129 rfl rfl, wA 25 rfl rfl, wA 130 rfl rfl⟩, by decide +kernel, by decide +kernel, by decide +kernel⟩
set_option maxRecDepth 50000 in
theorem lk_L_82 : LkV RL 82 yX4_addPlace cX4_addPlace 2 (some .int) 1 := ⟨⟨wA 541 rfl rfl, wA 542 rfl rfl, wA 543 rfl rfl, wA 30 rfl rfl, wA 544 rfl rfl⟩, by decide +kernel, by decide +kernel, by decide +kernel⟩
set_option maxRecDepth 50000 in
theorem lk_L_83 : LkV RL 83 yX4_thrown cX4_thrown 1 (some .int) 0 := ⟨⟨wA 537 rfl rfl, wA 538 rfl rfl, wA 539 rfl rfl, wA 30 rfl rfl, wA 540 rfl rfl⟩, by decide +kernel, by decide +kernel, by decide +kernel⟩
set_option maxRecDepth 50000 in
theorem lk_L_86 : LkV RL 86 yX3_places cX3_places 1 (some .int) 0 := ⟨⟨wA 112 rfl rfl, wA 113 rfl rfl, wA 114 rfl rfl, wA 26 rfl rfl, wA 115 rfl rfl⟩, by decide +kernel, by decide +kernel, by decide +kernel⟩
set_option maxRecDepth 50000 in
theorem lk_L_89 : LkV RL 89 yX4_places cX4_places 1 (some .int) 0 := ⟨⟨wA 563 rfl rfl, wA 564 rfl rfl, wA 565 rfl rfl, wA 30 rfl rfl, wA 566 rfl rfl⟩, by decide +kernel, by decide +kernel, by decide +kernel⟩
set_option maxRecDepth 50000 in
theorem lk_L_90 : LkH RL 90 yL_leaves cL_leaves 4 (some .int) [(0, 9, 12, 13)] 3 := ⟨⟨wA 254 rfl rfl, wA 255 rfl rfl, wA 25 rfl rfl, wA 256 rfl rfl⟩, by decide +kernel, by decide +kernel, by decide +kernel⟩
set_option maxRecDepth 50000 in
theorem lk_L_92 : LkV RL 92 yX4_leaves cX4_leaves 4 (some .int) 1 := ⟨⟨wA 567 rfl rfl, wA 568 rfl rfl, wA 569 rfl rfl, wA 30 rfl rfl, wA 570 rfl rfl⟩, by decide +kernel, by decide +kernel, by decide +kernel⟩
set_option maxRecDepth 50000 in
theorem lk_L_93 : LkH RL 93 yL_set cL_set 8 (some .int) [(0, 16, 19, 13), (0, 16, 23, 24), (0, 16, 27, 15)] 7 := ⟨⟨wA 265 rfl rfl, wA 266 rfl rfl, wA 25 rfl rfl, wA 267 rfl rfl⟩, by decide +kernel, by decide +kernel, by decide +kernel⟩
set_option maxRecDepth 50000 in
theorem lk_L_96 : LkV RL 96 yX4_set cX4_set 6 (some .int) 5 := ⟨⟨wA 579 rfl rfl, wA 580 rfl rfl, wA 581 rfl rfl, wA 30 rfl rfl, wA 582 rfl rfl⟩, by decide +kernel, by decide +kernel, by decide +kernel⟩
set_option maxRecDepth 50000 in
theorem lk_L_97 : LkH RL 97 yL_hold cL_hold 6 (some .int) [(0, 19, 22, 13), (0, 19, 26, 15)] 5 := ⟨⟨wA 321 rfl rfl, wA 322 rfl rfl, wA 25 rfl rfl, wA 323 rfl rfl⟩, by decide +kernel, by decide +kernel, by decide +kernel⟩
set_option maxRecDepth 50000 in
theorem lk_L_100 : LkV RL 100 yX4_hold cX4_hold 5 (some .boolean) 3 := ⟨⟨wA 601 rfl rfl, wA 602 rfl rfl, wA 603 rfl rfl, wA 30 rfl rfl, wA 604 rfl rfl⟩, by decide +kernel, by decide +kernel, by decide +kernel⟩
set_option maxRecDepth 50000 in
theorem lk_L_101 : LkH RL 101 yL_setSeason cL_setSeason 5 (some .int) [(0, 10, 13, 13), (0, 10, 17, 24)] 4 := ⟨⟨wA 328 rfl rfl, wA 329 rfl rfl, wA 25 rfl rfl, wA 330 rfl rfl⟩, by decide +kernel, by decide +kernel, by decide +kernel⟩
set_option maxRecDepth 50000 in
theorem lk_L_104 : LkV RL 104 yX4_setSeason cX4_setSeason 4 (some .int) 2 := ⟨⟨wA 605 rfl rfl, wA 606 rfl rfl, wA 607 rfl rfl, wA 30 rfl rfl, wA 608 rfl rfl⟩, by decide +kernel, by decide +kernel, by decide +kernel⟩
set_option maxRecDepth 50000 in
theorem lk_L_105 : LkH RL 105 yL_spread cL_spread 8 (some .int) [(0, 16, 19, 13), (0, 16, 23, 24), (0, 16, 27, 15)] 7 := ⟨⟨wA 335 rfl rfl, wA 336 rfl rfl, wA 25 rfl rfl, wA 337 rfl rfl⟩, by decide +kernel, by decide +kernel, by decide +kernel⟩
set_option maxRecDepth 50000 in
theorem lk_L_107 : LkV RL 107 yX4_spread cX4_spread 6 (some .int) 5 := ⟨⟨wA 609 rfl rfl, wA 610 rfl rfl, wA 611 rfl rfl, wA 30 rfl rfl, wA 612 rfl rfl⟩, by decide +kernel, by decide +kernel, by decide +kernel⟩
set_option maxRecDepth 50000 in
theorem lk_L_108 : LkH RL 108 yL_spreadYear cL_spreadYear 6 (some .int) [(0, 12, 15, 13), (0, 12, 19, 24), (0, 12, 23, 15)] 5 := ⟨⟨wA 390 rfl rfl, wA 391 rfl rfl, wA 25 rfl rfl, wA 392 rfl rfl⟩, by decide +kernel, by decide +kernel, by decide +kernel⟩
set_option maxRecDepth 50000 in
theorem lk_L_111 : LkV RL 111 yX4_spreadYear cX4_spreadYear 6 (some .int) 3 := ⟨⟨wA 629 rfl rfl, wA 630 rfl rfl, wA 631 rfl rfl, wA 30 rfl rfl, wA 632 rfl rfl⟩, by decide +kernel, by decide +kernel, by decide +kernel⟩
set_option maxRecDepth 50000 in
theorem lk_L_112 : LkH RL 112 yL_copy cL_copy 5 (some .int) [(0, 10, 13, 13), (0, 10, 17, 24), (0, 10, 21, 15)] 4 := ⟨⟨wA 399 rfl rfl, wA 400 rfl rfl, wA 25 rfl rfl, wA 401 rfl rfl⟩, by decide +kernel, by decide +kernel, by decide +kernel⟩
set_option maxRecDepth 50000 in
theorem lk_L_114 : LkV RL 114 yX4_copy cX4_copy 5 (some .int) 2 := ⟨⟨wA 633 rfl rfl, wA 634 rfl rfl, wA 635 rfl rfl, wA 30 rfl rfl, wA 636 rfl rfl⟩, by decide +kernel, by decide +kernel, by decide +kernel⟩
set_option maxRecDepth 50000 in
theorem lk_L_115 : LkH RL 115 yL_handIn cL_handIn 5 (some .int) [(0, 10, 13, 13)] 4 := ⟨⟨wA 412 rfl rfl, wA 413 rfl rfl, wA 25 rfl rfl, wA 414 rfl rfl⟩, by decide +kernel, by decide +kernel, by decide +kernel⟩
set_option maxRecDepth 50000 in
theorem lk_L_117 : LkV RL 117 yX4_handIn cX4_handIn 3 (some .int) 2 := ⟨⟨wA 637 rfl rfl, wA 638 rfl rfl, wA 639 rfl rfl, wA 30 rfl rfl, wA 640 rfl rfl⟩, by decide +kernel, by decide +kernel, by decide +kernel⟩
set_option maxRecDepth 50000 in
theorem lk_L_118 : LkH RL 118 yL_takeBack cL_takeBack 5 (some .int) [(0, 10, 13, 13)] 4 := ⟨⟨wA 425 rfl rfl, wA 426 rfl rfl, wA 25 rfl rfl, wA 427 rfl rfl⟩, by decide +kernel, by decide +kernel, by decide +kernel⟩
set_option maxRecDepth 50000 in
theorem lk_L_120 : LkV RL 120 yX4_takeBack cX4_takeBack 3 (some .int) 2 := ⟨⟨wA 645 rfl rfl, wA 646 rfl rfl, wA 647 rfl rfl, wA 30 rfl rfl, wA 648 rfl rfl⟩, by decide +kernel, by decide +kernel, by decide +kernel⟩
set_option maxRecDepth 50000 in
theorem lk_L_121 : LkH RL 121 yL_see cL_see 7 (some .int) [(0, 14, 17, 13), (0, 14, 21, 24), (0, 14, 25, 15)] 6 := ⟨⟨wA 432 rfl rfl, wA 433 rfl rfl, wA 25 rfl rfl, wA 434 rfl rfl⟩, by decide +kernel, by decide +kernel, by decide +kernel⟩
set_option maxRecDepth 50000 in
theorem lk_L_124 : LkV RL 124 yX4_see cX4_see 5 (some .int) 4 := ⟨⟨wA 649 rfl rfl, wA 650 rfl rfl, wA 651 rfl rfl, wA 30 rfl rfl, wA 652 rfl rfl⟩, by decide +kernel, by decide +kernel, by decide +kernel⟩
set_option maxRecDepth 50000 in
theorem lk_L_125 : LkH RL 125 yL_closeMonth cL_closeMonth 3 (some .int) [(0, 8, 11, 15)] 2 := ⟨⟨wA 439 rfl rfl, wA 440 rfl rfl, wA 25 rfl rfl, wA 441 rfl rfl⟩, by decide +kernel, by decide +kernel, by decide +kernel⟩
set_option maxRecDepth 50000 in
theorem lk_L_128 : LkV RL 128 yX4_closeMonth cX4_closeMonth 1 (some .int) 0 := ⟨⟨wA 653 rfl rfl, wA 654 rfl rfl, wA 655 rfl rfl, wA 30 rfl rfl, wA 656 rfl rfl⟩, by decide +kernel, by decide +kernel, by decide +kernel⟩
set_option maxRecDepth 50000 in
theorem lk_L_129 : LkH RL 129 yL_amount cL_amount 7 (some .int) [(0, 14, 17, 13)] 6 := ⟨⟨wA 447 rfl rfl, wA 448 rfl rfl, wA 25 rfl rfl, wA 449 rfl rfl⟩, by decide +kernel, by decide +kernel, by decide +kernel⟩
set_option maxRecDepth 50000 in
theorem lk_L_131 : LkV RL 131 yX4_amount cX4_amount 5 (some .int) 4 := ⟨⟨wA 657 rfl rfl, wA 658 rfl rfl, wA 659 rfl rfl, wA 30 rfl rfl, wA 660 rfl rfl⟩, by decide +kernel, by decide +kernel, by decide +kernel⟩
set_option maxRecDepth 50000 in
theorem lk_L_132 : LkH RL 132 yL_outlook cL_outlook 7 (some .int) [(0, 14, 17, 13)] 6 := ⟨⟨wA 458 rfl rfl, wA 459 rfl rfl, wA 25 rfl rfl, wA 460 rfl rfl⟩, by decide +kernel, by decide +kernel, by decide +kernel⟩
set_option maxRecDepth 50000 in
theorem lk_L_134 : LkV RL 134 yX4_outlook cX4_outlook 5 (some .int) 4 := ⟨⟨wA 673 rfl rfl, wA 674 rfl rfl, wA 675 rfl rfl, wA 30 rfl rfl, wA 676 rfl rfl⟩, by decide +kernel, by decide +kernel, by decide +kernel⟩
set_option maxRecDepth 50000 in
theorem lk_L_135 : LkH RL 135 yL_year cL_year 6 (some .int) [(0, 12, 15, 13)] 5 := ⟨⟨wA 465 rfl rfl, wA 466 rfl rfl, wA 25 rfl rfl, wA 467 rfl rfl⟩, by decide +kernel, by decide +kernel, by decide +kernel⟩
set_option maxRecDepth 50000 in
theorem lk_L_137 : LkV RL 137 yX4_year cX4_year 6 (some .int) 3 := ⟨⟨wA 677 rfl rfl, wA 678 rfl rfl, wA 679 rfl rfl, wA 30 rfl rfl, wA 680 rfl rfl⟩, by decide +kernel, by decide +kernel, by decide +kernel⟩
set_option maxRecDepth 50000 in
theorem lk_L_138 : LkH RL 138 yL_yearByLeaves cL_yearByLeaves 6 (some .int) [(0, 12, 15, 13)] 5 := ⟨⟨wA 472 rfl rfl, wA 473 rfl rfl, wA 25 rfl rfl, wA 474 rfl rfl⟩, by decide +kernel, by decide +kernel, by decide +kernel⟩
set_option maxRecDepth 50000 in
theorem lk_L_140 : LkV RL 140 yX4_yearByLeaves cX4_yearByLeaves 4 (some .int) 3 := ⟨⟨wA 681 rfl rfl, wA 682 rfl rfl, wA 683 rfl rfl, wA 30 rfl rfl, wA 684 rfl rfl⟩, by decide +kernel, by decide +kernel, by decide +kernel⟩
set_option maxRecDepth 50000 in
theorem lk_L_141 : LkV RL 141 yX3_filled cX3_filled 1 (some .int) 0 := ⟨⟨wA 120 rfl rfl, wA 121 rfl rfl, wA 122 rfl rfl, wA 26 rfl rfl, wA 123 rfl rfl⟩, by decide +kernel, by decide +kernel, by decide +kernel⟩
set_option maxRecDepth 50000 in
theorem lk_L_144 : LkV RL 144 yX4_filled cX4_filled 3 (some .int) 0 := ⟨⟨wA 686 rfl rfl, wA 687 rfl rfl, wA 688 rfl rfl, wA 30 rfl rfl, wA 689 rfl rfl⟩, by decide +kernel, by decide +kernel, by decide +kernel⟩
set_option maxRecDepth 50000 in
theorem lk_L_145 : LkH RL 145 yL_gap cL_gap 7 (some .int) [(0, 14, 17, 13), (0, 14, 21, 24)] 6 := ⟨⟨wA 483 rfl rfl, wA 484 rfl rfl, wA 25 rfl rfl, wA 485 rfl rfl⟩, by decide +kernel, by decide +kernel, by decide +kernel⟩
set_option maxRecDepth 50000 in
theorem lk_L_147 : LkV RL 147 yX4_gap cX4_gap 8 (some .int) 4 := ⟨⟨wA 690 rfl rfl, wA 691 rfl rfl, wA 692 rfl rfl, wA 30 rfl rfl, wA 693 rfl rfl⟩, by decide +kernel, by decide +kernel, by decide +kernel⟩
set_option maxRecDepth 50000 in
theorem thA_eIO : ∀ w ∈ (vx_atS RX3 191 eIO eUp).filter goodWord, w ∈ wsA := fun w hw => List.mem_filter.mpr ⟨(by decide +kernel : ∀ w ∈ (vx_atS RX3 191 eIO eUp).filter goodWord, w ∈ lw_tbl) w hw, (List.mem_filter.mp hw).2⟩
set_option maxRecDepth 50000 in
theorem thB_eIO : ∀ w ∈ (vx_atS RX3 191 eIO eUp).filter (fun w => !goodWord w), w ∈ exW := by decide +kernel
set_option maxRecDepth 50000 in
theorem thC_eIO : ∀ w ∈ Cond.classLink RX3 187 eIO :: Cond.initialized eIO :: vx_atS RX3 191 eIO eUp, vx_ot w = true := List.all_eq_true.mp (by decide +kernel)
set_option maxRecDepth 50000 in
theorem th_eIO {is : Nat} {text : String} (h : (is, text) ∈ exS) : ThW eIO 187 is 191 text := ⟨by decide +kernel, wA 145 rfl rfl, wA 34 rfl rfl, thA_eIO, thB_eIO, thC_eIO, h⟩
set_option maxRecDepth 50000 in
theorem thA_eIS : ∀ w ∈ (vx_atS RX3 60 eIS eUp).filter goodWord, w ∈ wsA := fun w hw => List.mem_filter.mpr ⟨(by decide +kernel : ∀ w ∈ (vx_atS RX3 60 eIS eUp).filter goodWord, w ∈ lw_tbl) w hw, (List.mem_filter.mp hw).2⟩
set_option maxRecDepth 50000 in
theorem thB_eIS : ∀ w ∈ (vx_atS RX3 60 eIS eUp).filter (fun w => !goodWord w), w ∈ exW := by decide +kernel
set_option maxRecDepth 50000 in
theorem thC_eIS : ∀ w ∈ Cond.classLink RX3 56 eIS :: Cond.initialized eIS :: vx_atS RX3 60 eIS eUp, vx_ot w = true := List.all_eq_true.mp (by decide +kernel)
set_option maxRecDepth 50000 in
theorem th_eIS {is : Nat} {text : String} (h : (is, text) ∈ exS) : ThW eIS 56 is 60 text := ⟨by decide +kernel, wA 217 rfl rfl, wA 35 rfl rfl, thA_eIS, thB_eIS, thC_eIS, h⟩
set_option maxRecDepth 50000 in
theorem thA_eIA : ∀ w ∈ (vx_atS RX3 135 eIA eUp).filter goodWord, w ∈ wsA := fun w hw => List.mem_filter.mpr ⟨(by decide +kernel : ∀ w ∈ (vx_atS RX3 135 eIA eUp).filter goodWord, w ∈ lw_tbl) w hw, (List.mem_filter.mp hw).2⟩
set_option maxRecDepth 50000 in
theorem thB_eIA : ∀ w ∈ (vx_atS RX3 135 eIA eUp).filter (fun w => !goodWord w), w ∈ exW := by decide +kernel
set_option maxRecDepth 50000 in
theorem thC_eIA : ∀ w ∈ Cond.classLink RX3 131 eIA :: Cond.initialized eIA :: vx_atS RX3 135 eIA eUp, vx_ot w = true := List.all_eq_true.mp (by decide +kernel)
set_option maxRecDepth 50000 in
theorem th_eIA {is : Nat} {text : String} (h : (is, text) ∈ exS) : ThW eIA 131 is 135 text := ⟨by decide +kernel, wA 292 rfl rfl, wA 36 rfl rfl, thA_eIA, thB_eIA, thC_eIA, h⟩
set_option maxRecDepth 50000 in
theorem cl_L_8 : Cond.classLink RL 8 "BudgetBook" ∈ wsA := wA 38 rfl rfl
set_option maxRecDepth 50000 in
theorem cl_L_13 : Cond.classLink RL 13 "java/lang/IndexOutOfBoundsException" ∈ wsA := wA 131 rfl rfl
set_option maxRecDepth 50000 in
theorem cl_L_15 : Cond.classLink RL 15 "java/lang/IllegalStateException" ∈ wsA := wA 132 rfl rfl
set_option maxRecDepth 50000 in
theorem cl_L_24 : Cond.classLink RL 24 "java/lang/IllegalArgumentException" ∈ wsA := wA 268 rfl rfl
set_option maxRecDepth 50000 in
theorem cl_L_74 : Cond.classLink RL 74 "BudgetBookModel" ∈ wsA := wA 497 rfl rfl
set_option maxRecDepth 50000 in
theorem cl_X3_9 : Cond.classLink RX3 9 "BudgetBook$Tree" ∈ wsA := wA 46 rfl rfl
set_option maxRecDepth 50000 in
theorem cl_X3_16 : Cond.classLink RX3 16 "BudgetBook$Cells" ∈ wsA := wA 63 rfl rfl
set_option maxRecDepth 50000 in
theorem cl_X3_30 : Cond.classLink RX3 30 "BudgetBook$Shares" ∈ wsA := wA 73 rfl rfl
set_option maxRecDepth 50000 in
theorem in_X3 : Cond.instantiable RX3 7 ∈ wsA := wA 39 rfl rfl
set_option maxRecDepth 50000 in
theorem ini_X3 : Cond.initialized RX3 ∈ wsA := wA 26 rfl rfl
set_option maxRecDepth 50000 in
theorem in_X2 : Cond.instantiable RX2 3 ∈ wsA := wA 47 rfl rfl
set_option maxRecDepth 50000 in
theorem ini_X2 : Cond.initialized RX2 ∈ wsA := wA 27 rfl rfl
set_option maxRecDepth 50000 in
theorem in_X0 : Cond.instantiable RX0 1 ∈ wsA := wA 64 rfl rfl
set_option maxRecDepth 50000 in
theorem ini_X0 : Cond.initialized RX0 ∈ wsA := wA 28 rfl rfl
set_option maxRecDepth 50000 in
theorem in_X1 : Cond.instantiable RX1 2 ∈ wsA := wA 74 rfl rfl
set_option maxRecDepth 50000 in
theorem ini_X1 : Cond.initialized RX1 ∈ wsA := wA 29 rfl rfl
set_option maxRecDepth 50000 in
theorem in_X4 : Cond.instantiable RX4 11 ∈ wsA := wA 498 rfl rfl
set_option maxRecDepth 50000 in
theorem ini_X4 : Cond.initialized RX4 ∈ wsA := wA 30 rfl rfl
set_option maxRecDepth 50000 in
theorem ac_int : Cond.arrayClass .int ∈ wsA := wA 62 rfl rfl
set_option maxRecDepth 50000 in
theorem ac_long : Cond.arrayClass .long ∈ wsA := wA 697 rfl rfl
set_option maxRecDepth 50000 in
theorem oi_X0 : Cond.methodLink RX0 5 objectInit ∈ wsA := wA 68 rfl rfl
set_option maxRecDepth 50000 in
theorem oi_X1 : Cond.methodLink RX1 3 objectInit ∈ wsA := wA 78 rfl rfl
set_option maxRecDepth 50000 in
theorem oi_X2 : Cond.methodLink RX2 3 objectInit ∈ wsA := wA 51 rfl rfl
set_option maxRecDepth 50000 in
theorem oi_X3 : Cond.methodLink RX3 3 objectInit ∈ wsA := wA 43 rfl rfl
set_option maxRecDepth 50000 in
theorem oi_X4 : Cond.methodLink RX4 1 objectInit ∈ wsA := wA 502 rfl rfl
set_option maxRecDepth 50000 in
theorem oi_1 : Cond.instanceMethod objectInit ∈ wsA := wA 44 rfl rfl
set_option maxRecDepth 50000 in
theorem oi_2 : Cond.code objectInit ⟨#[0xb1]⟩ 1 none ∈ wsA := wA 45 rfl rfl
