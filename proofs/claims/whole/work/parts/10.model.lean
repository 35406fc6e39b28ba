def fX5_thrown (N : Nat) (d_t : Int32) : Option (Int32) := some d_t
set_option maxHeartbeats 4000000 in
set_option maxRecDepth 100000 in
theorem kX5_thrown {l : Launch} {G : wG} (d0 d1 d2 d3 d4 d5 d6 d7 d8 d9 d10 d11 d12 : Nat) (d_n : Int32) (d_a : Nat → Int32) (d_b : Nat → Int32) (d_c : Nat → Int32) (d_k : Int32) (d_x : Nat → Int32) (d_y : Nat → Int32) (d_d : Nat → Int32) (d_r : Nat → Int32) (d_w : Nat → Int32) (d_e : Int32) (d_1 : Nat → Int32) (d_2 : Nat → Int32) (d_o : Nat → Int32) (d_g : Nat → Int32) (d_ra : Int32) (d_rb : Int32) (d_rc : Int32) (d_t : Int32) (N : Nat) (v : Int32) (h : fX5_thrown N d_t = some v) : wCi l G yX5_thrown wsX5_thrown ({ frames := 0, cells := 0, slots := 0, locals := 0 } : Room) [.ref d0] (w_D G d0 d1 d2 d3 d4 d5 d6 d7 d8 d9 d10 d11 d12 d_n d_a d_b d_c d_k d_x d_y d_d d_r d_w d_e d_1 d_2 d_o d_g d_ra d_rb d_rc d_t) (w_D G d0 d1 d2 d3 d4 d5 d6 d7 d8 d9 d10 d11 d12 d_n d_a d_b d_c d_k d_x d_y d_d d_r d_w d_e d_1 d_2 d_o d_g d_ra d_rb d_rc d_t) 0 0 v := by
  refine wCi.mk (cc := cX5_thrown) (maxL := 1) (ty := .int) (by decide) rfl (Nat.le_of_ble_eq_true rfl) ?_
  intro p e s m below meth c A ls hx hb hml hr hlocks hts hown hK hA hP hD hl
  have hx : p.tables.exec = Jvm.exec := hx
  have hown : s.vm.findClass RX5 = some m.cls := hown
  have hinX5 : ∀ w ∈ wsX50, w ∈ wsX5_thrown := by decide +kernel
  have lk47 := hts (.fieldLink RX5 47 "ChamberwrightModel" "thrown" "I") (by decide +kernel)
  have hS : va_S A s.heap s.heap [] := va_S.rf
  have hP : va_P G.1 vwCl (w_D G d0 d1 d2 d3 d4 d5 d6 d7 d8 d9 d10 d11 d12 d_n d_a d_b d_c d_k d_x d_y d_d d_r d_w d_e d_1 d_2 d_o d_g d_ra d_rb d_rc d_t) s.heap := hP
  have hD : va_D A (w_D G d0 d1 d2 d3 d4 d5 d6 d7 d8 d9 d10 d11 d12 d_n d_a d_b d_c d_k d_x d_y d_d d_r d_w d_e d_1 d_2 d_o d_g d_ra d_rb d_rc d_t) := hD
  have hl : lv_has ls 1 [(0, .ref d0)] := hl
  obtain ⟨args, hargs⟩ : ∃ z : Array Value, z = ([.ref d0] : List Value).toArray := ⟨_, rfl⟩
  rw [← hargs]
  rw [← hargs] at hts
  rw [fX5_thrown.eq_1] at h
  refine lv_aload_n hx hb dX5_thrown_0 rfl (lv_at hl 0 rfl) ?_
  refine va_get (D := G.1) (ci := 5) (v := .int d_t) (C := RX5) (T := TX5) (N := 19) hx hb hts hinX5 hown hK.1 hP 0 rfl rfl 18 (by decide) lk47 (fun _ h9 => h9) rfl dX5_thrown_1 ?_
  obtain rfl := Option.some.inj h
  exact wri hx hb hr hlocks hP hD hS (Nat.le_of_ble_eq_true rfl) (Nat.le_of_ble_eq_true rfl) rfl dX5_thrown_4
def fX5_fails_b10 (N : Nat) (x1 : Int32) (d_t : Int32) (s1 : Int32) : Option (Int32 × Int32) := if x1 = 0 then zo 1 (some (1, s1)) else zo 0 (some (0, s1))
def fX5_fails (N : Nat) (d_t : Int32) (x1 : Int32) (x2 : Int32) : Option (Int32 × Int32) := if x1 = 0 then fX5_fails_b10 N x1 d_t x2 else fX5_fails_b10 N x1 d_t 0
set_option maxHeartbeats 4000000 in
set_option maxRecDepth 100000 in
theorem kX5_fails {l : Launch} {G : wG} (d0 d1 d2 d3 d4 d5 d6 d7 d8 d9 d10 d11 d12 : Nat) (d_n : Int32) (d_a : Nat → Int32) (d_b : Nat → Int32) (d_c : Nat → Int32) (d_k : Int32) (d_x : Nat → Int32) (d_y : Nat → Int32) (d_d : Nat → Int32) (d_r : Nat → Int32) (d_w : Nat → Int32) (d_e : Int32) (d_1 : Nat → Int32) (d_2 : Nat → Int32) (d_o : Nat → Int32) (d_g : Nat → Int32) (d_ra : Int32) (d_rb : Int32) (d_rc : Int32) (d_t : Int32) (x1 : Int32) (x2 : Int32) (N : Nat) (v : Int32 × Int32) (h : fX5_fails N d_t x1 x2 = some v) : wCi l G yX5_fails wsX5_fails ({ frames := 0, cells := 0, slots := 0, locals := 0 } : Room) [.ref d0, .int x1, .int x2] (w_D G d0 d1 d2 d3 d4 d5 d6 d7 d8 d9 d10 d11 d12 d_n d_a d_b d_c d_k d_x d_y d_d d_r d_w d_e d_1 d_2 d_o d_g d_ra d_rb d_rc d_t) (w_D G d0 d1 d2 d3 d4 d5 d6 d7 d8 d9 d10 d11 d12 d_n d_a d_b d_c d_k d_x d_y d_d d_r d_w d_e d_1 d_2 d_o d_g d_ra d_rb d_rc v.2) 0 0 v.1 := by
  refine wCi.mk (cc := cX5_fails) (maxL := 3) (ty := .boolean) (by decide) rfl (Nat.le_of_ble_eq_true rfl) ?_
  intro p e s m below meth c A ls hx hb hml hr hlocks hts hown hK hA hP hD hl
  have hx : p.tables.exec = Jvm.exec := hx
  have hown : s.vm.findClass RX5 = some m.cls := hown
  have hinX5 : ∀ w ∈ wsX50, w ∈ wsX5_fails := by decide +kernel
  have lk47 := hts (.fieldLink RX5 47 "ChamberwrightModel" "thrown" "I") (by decide +kernel)
  have hS : va_S A s.heap s.heap [] := va_S.rf
  have hP : va_P G.1 vwCl (w_D G d0 d1 d2 d3 d4 d5 d6 d7 d8 d9 d10 d11 d12 d_n d_a d_b d_c d_k d_x d_y d_d d_r d_w d_e d_1 d_2 d_o d_g d_ra d_rb d_rc d_t) s.heap := hP
  have hD : va_D A (w_D G d0 d1 d2 d3 d4 d5 d6 d7 d8 d9 d10 d11 d12 d_n d_a d_b d_c d_k d_x d_y d_d d_r d_w d_e d_1 d_2 d_o d_g d_ra d_rb d_rc d_t) := hD
  have hl : lv_has ls 3 [(0, .ref d0), (1, .int x1), (2, .int x2)] := hl
  obtain ⟨args, hargs⟩ : ∃ z : Array Value, z = ([.ref d0, .int x1, .int x2] : List Value).toArray := ⟨_, rfl⟩
  rw [← hargs]
  rw [← hargs] at hts
  have w_10 : ∀ (x1 : Int32) (d_t : Int32) (s1 : Int32) (H : Heap) (locs : List Loc) (ls : Array Slot), va_P G.1 vwCl (w_D G d0 d1 d2 d3 d4 d5 d6 d7 d8 d9 d10 d11 d12 d_n d_a d_b d_c d_k d_x d_y d_d d_r d_w d_e d_1 d_2 d_o d_g d_ra d_rb d_rc d_t) H → va_D A (w_D G d0 d1 d2 d3 d4 d5 d6 d7 d8 d9 d10 d11 d12 d_n d_a d_b d_c d_k d_x d_y d_d d_r d_w d_e d_1 d_2 d_o d_g d_ra d_rb d_rc d_t) → va_S A s.heap H locs → lv_has ls 3 [(1, .int x1)] → fX5_fails_b10 N x1 d_t s1 = some v → W p l e ({ frames := 0, cells := 0, slots := 0, locals := 0 } : Room) s m args below meth c H locs 0 0 (wQi G A below args s (w_D G d0 d1 d2 d3 d4 d5 d6 d7 d8 d9 d10 d11 d12 d_n d_a d_b d_c d_k d_x d_y d_d d_r d_w d_e d_1 d_2 d_o d_g d_ra d_rb d_rc v.2) 0 0 v.1) (F0 m 10 ls [.int s1, .ref d0]) := by
    intro x1 d_t s1 H locs ls hP hD hS hl h
    rw [fX5_fails_b10.eq_1] at h
    refine va_put (D := G.1) (ci := 5) (v := .int s1) (ty := .int) (C := RX5) (T := TX5) (N := 19) hx hb hts hinX5 tyX5 tyX5_ok nmX5 hown hK.1 hP hD hS 0 rfl rfl 18 (by decide) lk47 (fun _ h9 => h9) rfl (by decide +kernel) rfl rfl (Nat.le_of_ble_eq_true rfl) dX5_fails_10 (fun H locs hP hD hS => ?_)
    have hP : va_P G.1 vwCl (w_D G d0 d1 d2 d3 d4 d5 d6 d7 d8 d9 d10 d11 d12 d_n d_a d_b d_c d_k d_x d_y d_d d_r d_w d_e d_1 d_2 d_o d_g d_ra d_rb d_rc s1) H := hP
    have hD : va_D A (w_D G d0 d1 d2 d3 d4 d5 d6 d7 d8 d9 d10 d11 d12 d_n d_a d_b d_c d_k d_x d_y d_d d_r d_w d_e d_1 d_2 d_o d_g d_ra d_rb d_rc s1) := hD
    refine lv_iload_n hx hb dX5_fails_13 rfl (lv_at hl 0 rfl) ?_
    refine lv_if_ne (tgt := 21) hx hb dX5_fails_14 (by decide) (fun c_543 => ?_) (fun c_543 => ?_)
    · have h := iq c_543 h
      refine lv_iconst (v := 0) hx hb dX5_fails_21 (by decide) ?_
      obtain ⟨hz, h⟩ := zo_inv h
      obtain rfl := Option.some.inj h
      exact wrz hx hb hr hlocks hP hD hS (Nat.le_of_ble_eq_true rfl) (Nat.le_of_ble_eq_true rfl) hz rfl dX5_fails_22
    · have h := ip c_543 h
      refine lv_iconst (v := 1) hx hb dX5_fails_17 (by decide) ?_
      refine lv_goto (tgt := 22) hx hb dX5_fails_18 (by decide) ?_
      obtain ⟨hz, h⟩ := zo_inv h
      obtain rfl := Option.some.inj h
      exact wrz hx hb hr hlocks hP hD hS (Nat.le_of_ble_eq_true rfl) (Nat.le_of_ble_eq_true rfl) hz rfl dX5_fails_22
  rw [fX5_fails.eq_1] at h
  refine lv_aload_n hx hb dX5_fails_0 rfl (lv_at hl 0 rfl) ?_
  refine lv_iload_n hx hb dX5_fails_1 rfl (lv_at hl 1 rfl) ?_
  refine lv_if_eq (tgt := 9) hx hb dX5_fails_2 (by decide) (fun c_544 => ?_) (fun c_544 => ?_)
  · have h := ip c_544 h
    refine lv_iload_n hx hb dX5_fails_9 rfl (lv_at hl 2 rfl) ?_
    exact w_10  _ _ _ _ _ _  hP hD hS (lv_sub hl [1] rfl) h
  · have h := iq c_544 h
    refine lv_iconst (v := 0) hx hb dX5_fails_5 (by decide) ?_
    refine lv_goto (tgt := 10) hx hb dX5_fails_6 (by decide) ?_
    exact w_10  _ _ _ _ _ _  hP hD hS (lv_sub hl [1] rfl) h
def fX5_in (N : Nat) (x0 : Int32) (x1 : Int32) (x2 : Int32) : Option (Int32) := if x0 < x1 then zo 0 (some 0) else if x2 < x0 then zo 0 (some 0) else zo 1 (some 1)
set_option maxHeartbeats 4000000 in
set_option maxRecDepth 100000 in
theorem kX5_in {l : Launch} {G : wG} (x0 : Int32) (x1 : Int32) (x2 : Int32) (N : Nat) (v : Int32) (h : fX5_in N x0 x1 x2 = some v) : wCi l G yX5_in wsX5_in ({ frames := 0, cells := 0, slots := 0, locals := 0 } : Room) [.int x0, .int x1, .int x2] [] [] 0 0 v := by
  refine wCi.mk (cc := cX5_in) (maxL := 3) (ty := .boolean) (by decide) rfl (Nat.le_of_ble_eq_true rfl) ?_
  intro p e s m below meth c A ls hx hb hml hr hlocks hts hown hK hA hP hD hl
  have hx : p.tables.exec = Jvm.exec := hx
  have hown : s.vm.findClass RX5 = some m.cls := hown
  have hS : va_S A s.heap s.heap [] := va_S.rf
  have hP : va_P G.1 vwCl [] s.heap := hP
  have hD : va_D A [] := hD
  have hl : lv_has ls 3 [(0, .int x0), (1, .int x1), (2, .int x2)] := hl
  obtain ⟨args, hargs⟩ : ∃ z : Array Value, z = ([.int x0, .int x1, .int x2] : List Value).toArray := ⟨_, rfl⟩
  rw [← hargs]
  rw [← hargs] at hts
  rw [fX5_in.eq_1] at h
  refine lv_iload_n hx hb dX5_in_0 rfl (lv_at hl 0 rfl) ?_
  refine lv_iload_n hx hb dX5_in_1 rfl (lv_at hl 1 rfl) ?_
  refine lv_icmp_lt (tgt := 14) hx hb dX5_in_2 (by decide) (fun c_545 => ?_) (fun c_545 => ?_)
  · have h := ip c_545 h
    refine lv_iconst (v := 0) hx hb dX5_in_14 (by decide) ?_
    obtain ⟨hz, h⟩ := zo_inv h
    obtain rfl := Option.some.inj h
    exact wrz hx hb hr hlocks hP hD hS (Nat.le_of_ble_eq_true rfl) (Nat.le_of_ble_eq_true rfl) hz rfl dX5_in_15
  · have h := iq c_545 h
    refine lv_iload_n hx hb dX5_in_5 rfl (lv_at hl 0 rfl) ?_
    refine lv_iload_n hx hb dX5_in_6 rfl (lv_at hl 2 rfl) ?_
    refine lv_icmp_gt (tgt := 14) hx hb dX5_in_7 (by decide) (fun c_546 => ?_) (fun c_546 => ?_)
    · have h := ip c_546 h
      refine lv_iconst (v := 0) hx hb dX5_in_14 (by decide) ?_
      obtain ⟨hz, h⟩ := zo_inv h
      obtain rfl := Option.some.inj h
      exact wrz hx hb hr hlocks hP hD hS (Nat.le_of_ble_eq_true rfl) (Nat.le_of_ble_eq_true rfl) hz rfl dX5_in_15
    · have h := iq c_546 h
      refine lv_iconst (v := 1) hx hb dX5_in_10 (by decide) ?_
      refine lv_goto (tgt := 15) hx hb dX5_in_11 (by decide) ?_
      obtain ⟨hz, h⟩ := zo_inv h
      obtain rfl := Option.some.inj h
      exact wrz hx hb hr hlocks hP hD hS (Nat.le_of_ble_eq_true rfl) (Nat.le_of_ble_eq_true rfl) hz rfl dX5_in_15
def fX5_sign (N : Nat) (x0 : Int32) : Option (Int32) := if x0 ≤ 0 then if 0 ≤ x0 then some 0 else some ((-1)) else some 1
set_option maxHeartbeats 4000000 in
set_option maxRecDepth 100000 in
theorem kX5_sign {l : Launch} {G : wG} (x0 : Int32) (N : Nat) (v : Int32) (h : fX5_sign N x0 = some v) : wCi l G yX5_sign wsX5_sign ({ frames := 0, cells := 0, slots := 0, locals := 0 } : Room) [.int x0] [] [] 0 0 v := by
  refine wCi.mk (cc := cX5_sign) (maxL := 1) (ty := .int) (by decide) rfl (Nat.le_of_ble_eq_true rfl) ?_
  intro p e s m below meth c A ls hx hb hml hr hlocks hts hown hK hA hP hD hl
  have hx : p.tables.exec = Jvm.exec := hx
  have hown : s.vm.findClass RX5 = some m.cls := hown
  have hS : va_S A s.heap s.heap [] := va_S.rf
  have hP : va_P G.1 vwCl [] s.heap := hP
  have hD : va_D A [] := hD
  have hl : lv_has ls 1 [(0, .int x0)] := hl
  obtain ⟨args, hargs⟩ : ∃ z : Array Value, z = ([.int x0] : List Value).toArray := ⟨_, rfl⟩
  rw [← hargs]
  rw [← hargs] at hts
  rw [fX5_sign.eq_1] at h
  refine lv_iload_n hx hb dX5_sign_0 rfl (lv_at hl 0 rfl) ?_
  refine lv_if_le (tgt := 8) hx hb dX5_sign_1 (by decide) (fun c_547 => ?_) (fun c_547 => ?_)
  · have h := ip c_547 h
    refine lv_iload_n hx hb dX5_sign_8 rfl (lv_at hl 0 rfl) ?_
    refine lv_if_ge (tgt := 16) hx hb dX5_sign_9 (by decide) (fun c_548 => ?_) (fun c_548 => ?_)
    · have h := ip c_548 h
      refine lv_iconst (v := 0) hx hb dX5_sign_16 (by decide) ?_
      obtain rfl := Option.some.inj h
      exact wri hx hb hr hlocks hP hD hS (Nat.le_of_ble_eq_true rfl) (Nat.le_of_ble_eq_true rfl) rfl dX5_sign_17
    · have h := iq c_548 h
      refine lv_iconst (v := (-1)) hx hb dX5_sign_12 (by decide) ?_
      refine lv_goto (tgt := 17) hx hb dX5_sign_13 (by decide) ?_
      obtain rfl := Option.some.inj h
      exact wri hx hb hr hlocks hP hD hS (Nat.le_of_ble_eq_true rfl) (Nat.le_of_ble_eq_true rfl) rfl dX5_sign_17
  · have h := iq c_547 h
    refine lv_iconst (v := 1) hx hb dX5_sign_4 (by decide) ?_
    refine lv_goto (tgt := 17) hx hb dX5_sign_5 (by decide) ?_
    obtain rfl := Option.some.inj h
    exact wri hx hb hr hlocks hP hD hS (Nat.le_of_ble_eq_true rfl) (Nat.le_of_ble_eq_true rfl) rfl dX5_sign_17
def fX5_lineIs (N : Nat) (d_n : Int32) (x1 : Int32) : Option (Int32) := bd (fX5_in N x1 0 (d_n - 1)) (fun u_549 => zo u_549 (some u_549))
set_option maxHeartbeats 4000000 in
set_option maxRecDepth 100000 in
theorem kX5_lineIs {l : Launch} {G : wG} (d0 d1 d2 d3 d4 d5 d6 d7 d8 d9 d10 d11 d12 : Nat) (d_n : Int32) (d_a : Nat → Int32) (d_b : Nat → Int32) (d_c : Nat → Int32) (d_k : Int32) (d_x : Nat → Int32) (d_y : Nat → Int32) (d_d : Nat → Int32) (d_r : Nat → Int32) (d_w : Nat → Int32) (d_e : Int32) (d_1 : Nat → Int32) (d_2 : Nat → Int32) (d_o : Nat → Int32) (d_g : Nat → Int32) (d_ra : Int32) (d_rb : Int32) (d_rc : Int32) (d_t : Int32) (x1 : Int32) (N : Nat) (v : Int32) (h : fX5_lineIs N d_n x1 = some v) : wCi l G yX5_lineIs wsX5_lineIs ({ frames := 1, cells := 0, slots := 0, locals := 22 } : Room) [.ref d0, .int x1] (w_D G d0 d1 d2 d3 d4 d5 d6 d7 d8 d9 d10 d11 d12 d_n d_a d_b d_c d_k d_x d_y d_d d_r d_w d_e d_1 d_2 d_o d_g d_ra d_rb d_rc d_t) (w_D G d0 d1 d2 d3 d4 d5 d6 d7 d8 d9 d10 d11 d12 d_n d_a d_b d_c d_k d_x d_y d_d d_r d_w d_e d_1 d_2 d_o d_g d_ra d_rb d_rc d_t) 0 0 v := by
  refine wCi.mk (cc := cX5_lineIs) (maxL := 2) (ty := .boolean) (by decide) rfl (Nat.le_of_ble_eq_true rfl) ?_
  intro p e s m below meth c A ls hx hb hml hr hlocks hts hown hK hA hP hD hl
  have hx : p.tables.exec = Jvm.exec := hx
  have hown : s.vm.findClass RX5 = some m.cls := hown
  have hinX5 : ∀ w ∈ wsX50, w ∈ wsX5_lineIs := by decide +kernel
  have lk51 := hts (.fieldLink RX5 51 "ChamberwrightModel" "lines" "I") (by decide +kernel)
  have hS : va_S A s.heap s.heap [] := va_S.rf
  have hP : va_P G.1 vwCl (w_D G d0 d1 d2 d3 d4 d5 d6 d7 d8 d9 d10 d11 d12 d_n d_a d_b d_c d_k d_x d_y d_d d_r d_w d_e d_1 d_2 d_o d_g d_ra d_rb d_rc d_t) s.heap := hP
  have hD : va_D A (w_D G d0 d1 d2 d3 d4 d5 d6 d7 d8 d9 d10 d11 d12 d_n d_a d_b d_c d_k d_x d_y d_d d_r d_w d_e d_1 d_2 d_o d_g d_ra d_rb d_rc d_t) := hD
  have hl : lv_has ls 2 [(0, .ref d0), (1, .int x1)] := hl
  obtain ⟨args, hargs⟩ : ∃ z : Array Value, z = ([.ref d0, .int x1] : List Value).toArray := ⟨_, rfl⟩
  rw [← hargs]
  rw [← hargs] at hts
  rw [fX5_lineIs.eq_1] at h
  refine lv_iload_n hx hb dX5_lineIs_0 rfl (lv_at hl 1 rfl) ?_
  refine lv_iconst (v := 0) hx hb dX5_lineIs_1 (by decide) ?_
  refine lv_aload_n hx hb dX5_lineIs_2 rfl (lv_at hl 0 rfl) ?_
  refine va_get (D := G.1) (ci := 5) (v := .int d_n) (C := RX5) (T := TX5) (N := 19) hx hb hts hinX5 hown hK.1 hP 0 rfl rfl 0 (by decide) lk51 (fun _ h9 => h9) rfl dX5_lineIs_3 ?_
  refine lv_iconst (v := 1) hx hb dX5_lineIs_6 (by decide) ?_
  refine lv_isub hx hb dX5_lineIs_7 ?_
  obtain ⟨u_549, hc_550, h⟩ := bd_inv h
  refine wafter_i (wr := (w_D G d0 d1 d2 d3 d4 d5 d6 d7 d8 d9 d10 d11 d12 d_n d_a d_b d_c d_k d_x d_y d_d d_r d_w d_e d_1 d_2 d_o d_g d_ra d_rb d_rc d_t)) (w2 := (w_D G d0 d1 d2 d3 d4 d5 d6 d7 d8 d9 d10 d11 d12 d_n d_a d_b d_c d_k d_x d_y d_d d_r d_w d_e d_1 d_2 d_o d_g d_ra d_rb d_rc d_t)) (va_runS (As := [.int x1, .int 0, .int (d_n - 1)]) (rest := []) ⟨hx, hb, hml, hown, hts⟩ (kX5_in (l := l) (G := G)   x1 0 (d_n - 1) N u_549 hc_550 _) (va_cwS 3 hts gX5_lineIs_X5_in rfl rfl rfl (by decide +kernel) ⟨Nat.le_of_ble_eq_true rfl, Nat.le_of_ble_eq_true rfl⟩) (wPreS hP hD hK [] rfl rfl) rfl rfl hl.1 rfl (lv_room (Nat.le_of_ble_eq_true rfl)) dX5_lineIs_8 ⟨Nat.zero_le _, Nat.zero_le _⟩) hP hD hS hA [] [0, 1, 2, 3, 4, 5, 6, 7, 8, 9, 10, 11, 12] [0, 1, 2, 3, 4, 5, 6, 7, 8, 9, 10, 11, 12] rfl rfl rfl (by decide) rfl rfl (fun H locs hP hD hS => ?_)
  obtain ⟨hz, h⟩ := zo_inv h
  obtain rfl := Option.some.inj h
  exact wrz hx hb hr hlocks hP hD hS (Nat.le_of_ble_eq_true rfl) (Nat.le_of_ble_eq_true rfl) hz rfl dX5_lineIs_11
def fX5_isLine (N : Nat) (d_a : Nat → Int32) (d_b : Nat → Int32) (d_c : Nat → Int32) (x1 : Int32) (x2 : Int32) (x3 : Int32) (x4 : Int32) : Option (Int32) := rd d_a 9 x1 (fun v_551 => rd d_b 9 x1 (fun v_552 => if (v_551 * x3) = (v_552 * x2) then rd d_a 9 x1 (fun v_554 => rd d_c 9 x1 (fun v_555 => if (v_554 * x4) = (v_555 * x2) then rd d_b 9 x1 (fun v_557 => rd d_c 9 x1 (fun v_558 => if (v_557 * x4) = (v_558 * x3) then zo 1 (some 1) else zo 0 (some 0))) else zo 0 (some 0))) else zo 0 (some 0)))
set_option maxHeartbeats 4000000 in
set_option maxRecDepth 100000 in
theorem kX5_isLine {l : Launch} {G : wG} (d0 d1 d2 d3 d4 d5 d6 d7 d8 d9 d10 d11 d12 : Nat) (d_n : Int32) (d_a : Nat → Int32) (d_b : Nat → Int32) (d_c : Nat → Int32) (d_k : Int32) (d_x : Nat → Int32) (d_y : Nat → Int32) (d_d : Nat → Int32) (d_r : Nat → Int32) (d_w : Nat → Int32) (d_e : Int32) (d_1 : Nat → Int32) (d_2 : Nat → Int32) (d_o : Nat → Int32) (d_g : Nat → Int32) (d_ra : Int32) (d_rb : Int32) (d_rc : Int32) (d_t : Int32) (x1 : Int32) (x2 : Int32) (x3 : Int32) (x4 : Int32) (N : Nat) (v : Int32) (h : fX5_isLine N d_a d_b d_c x1 x2 x3 x4 = some v) : wCi l G yX5_isLine wsX5_isLine ({ frames := 0, cells := 0, slots := 0, locals := 0 } : Room) [.ref d0, .int x1, .int x2, .int x3, .int x4] (w_D G d0 d1 d2 d3 d4 d5 d6 d7 d8 d9 d10 d11 d12 d_n d_a d_b d_c d_k d_x d_y d_d d_r d_w d_e d_1 d_2 d_o d_g d_ra d_rb d_rc d_t) (w_D G d0 d1 d2 d3 d4 d5 d6 d7 d8 d9 d10 d11 d12 d_n d_a d_b d_c d_k d_x d_y d_d d_r d_w d_e d_1 d_2 d_o d_g d_ra d_rb d_rc d_t) 0 0 v := by
  refine wCi.mk (cc := cX5_isLine) (maxL := 5) (ty := .boolean) (by decide) rfl (Nat.le_of_ble_eq_true rfl) ?_
  intro p e s m below meth c A ls hx hb hml hr hlocks hts hown hK hA hP hD hl
  have hx : p.tables.exec = Jvm.exec := hx
  have hown : s.vm.findClass RX5 = some m.cls := hown
  have hinX5 : ∀ w ∈ wsX50, w ∈ wsX5_isLine := by decide +kernel
  have lk13 := hts (.fieldLink RX5 13 "ChamberwrightModel" "lb" "[I") (by decide +kernel)
  have lk16 := hts (.fieldLink RX5 16 "ChamberwrightModel" "lc" "[I") (by decide +kernel)
  have lk7 := hts (.fieldLink RX5 7 "ChamberwrightModel" "la" "[I") (by decide +kernel)
  have hS : va_S A s.heap s.heap [] := va_S.rf
  have hP : va_P G.1 vwCl (w_D G d0 d1 d2 d3 d4 d5 d6 d7 d8 d9 d10 d11 d12 d_n d_a d_b d_c d_k d_x d_y d_d d_r d_w d_e d_1 d_2 d_o d_g d_ra d_rb d_rc d_t) s.heap := hP
  have hD : va_D A (w_D G d0 d1 d2 d3 d4 d5 d6 d7 d8 d9 d10 d11 d12 d_n d_a d_b d_c d_k d_x d_y d_d d_r d_w d_e d_1 d_2 d_o d_g d_ra d_rb d_rc d_t) := hD
  have hl : lv_has ls 5 [(0, .ref d0), (1, .int x1), (2, .int x2), (3, .int x3), (4, .int x4)] := hl
  obtain ⟨args, hargs⟩ : ∃ z : Array Value, z = ([.ref d0, .int x1, .int x2, .int x3, .int x4] : List Value).toArray := ⟨_, rfl⟩
  rw [← hargs]
  rw [← hargs] at hts
  rw [fX5_isLine.eq_1] at h
  refine lv_aload_n hx hb dX5_isLine_0 rfl (lv_at hl 0 rfl) ?_
  refine va_get (D := G.1) (ci := 5) (v := .ref d1) (C := RX5) (T := TX5) (N := 19) hx hb hts hinX5 hown hK.1 hP 0 rfl rfl 1 (by decide) lk7 (fun _ h9 => h9) rfl dX5_isLine_1 ?_
  refine lv_iload_n hx hb dX5_isLine_4 rfl (lv_at hl 1 rfl) ?_
  refine wiald h hx hb hK hP 1 rfl dX5_isLine_5 (fun v_551 h => ?_)
  refine lv_iload_n hx hb dX5_isLine_6 rfl (lv_at hl 3 rfl) ?_
  refine lv_imul hx hb dX5_isLine_7 ?_
  refine lv_aload_n hx hb dX5_isLine_8 rfl (lv_at hl 0 rfl) ?_
  refine va_get (D := G.1) (ci := 5) (v := .ref d2) (C := RX5) (T := TX5) (N := 19) hx hb hts hinX5 hown hK.1 hP 0 rfl rfl 2 (by decide) lk13 (fun _ h9 => h9) rfl dX5_isLine_9 ?_
  refine lv_iload_n hx hb dX5_isLine_12 rfl (lv_at hl 1 rfl) ?_
  refine wiald h hx hb hK hP 2 rfl dX5_isLine_13 (fun v_552 h => ?_)
  refine lv_iload_n hx hb dX5_isLine_14 rfl (lv_at hl 2 rfl) ?_
  refine lv_imul hx hb dX5_isLine_15 ?_
  refine lv_icmp_ne (tgt := 63) hx hb dX5_isLine_16 (by decide) (fun c_553 => ?_) (fun c_553 => ?_)
  · have h := iq c_553 h
    refine lv_iconst (v := 0) hx hb dX5_isLine_63 (by decide) ?_
    obtain ⟨hz, h⟩ := zo_inv h
    obtain rfl := Option.some.inj h
    exact wrz hx hb hr hlocks hP hD hS (Nat.le_of_ble_eq_true rfl) (Nat.le_of_ble_eq_true rfl) hz rfl dX5_isLine_64
  · have h := ip c_553 h
    refine lv_aload_n hx hb dX5_isLine_19 rfl (lv_at hl 0 rfl) ?_
    refine va_get (D := G.1) (ci := 5) (v := .ref d1) (C := RX5) (T := TX5) (N := 19) hx hb hts hinX5 hown hK.1 hP 0 rfl rfl 1 (by decide) lk7 (fun _ h9 => h9) rfl dX5_isLine_20 ?_
    refine lv_iload_n hx hb dX5_isLine_23 rfl (lv_at hl 1 rfl) ?_
    refine wiald h hx hb hK hP 1 rfl dX5_isLine_24 (fun v_554 h => ?_)
    refine lv_iload hx hb dX5_isLine_25 (lv_at hl 4 rfl) ?_
    refine lv_imul hx hb dX5_isLine_27 ?_
    refine lv_aload_n hx hb dX5_isLine_28 rfl (lv_at hl 0 rfl) ?_
    refine va_get (D := G.1) (ci := 5) (v := .ref d3) (C := RX5) (T := TX5) (N := 19) hx hb hts hinX5 hown hK.1 hP 0 rfl rfl 3 (by decide) lk16 (fun _ h9 => h9) rfl dX5_isLine_29 ?_
    refine lv_iload_n hx hb dX5_isLine_32 rfl (lv_at hl 1 rfl) ?_
    refine wiald h hx hb hK hP 3 rfl dX5_isLine_33 (fun v_555 h => ?_)
    refine lv_iload_n hx hb dX5_isLine_34 rfl (lv_at hl 2 rfl) ?_
    refine lv_imul hx hb dX5_isLine_35 ?_
    refine lv_icmp_ne (tgt := 63) hx hb dX5_isLine_36 (by decide) (fun c_556 => ?_) (fun c_556 => ?_)
    · have h := iq c_556 h
      refine lv_iconst (v := 0) hx hb dX5_isLine_63 (by decide) ?_
      obtain ⟨hz, h⟩ := zo_inv h
      obtain rfl := Option.some.inj h
      exact wrz hx hb hr hlocks hP hD hS (Nat.le_of_ble_eq_true rfl) (Nat.le_of_ble_eq_true rfl) hz rfl dX5_isLine_64
    · have h := ip c_556 h
      refine lv_aload_n hx hb dX5_isLine_39 rfl (lv_at hl 0 rfl) ?_
      refine va_get (D := G.1) (ci := 5) (v := .ref d2) (C := RX5) (T := TX5) (N := 19) hx hb hts hinX5 hown hK.1 hP 0 rfl rfl 2 (by decide) lk13 (fun _ h9 => h9) rfl dX5_isLine_40 ?_
      refine lv_iload_n hx hb dX5_isLine_43 rfl (lv_at hl 1 rfl) ?_
      refine wiald h hx hb hK hP 2 rfl dX5_isLine_44 (fun v_557 h => ?_)
      refine lv_iload hx hb dX5_isLine_45 (lv_at hl 4 rfl) ?_
      refine lv_imul hx hb dX5_isLine_47 ?_
      refine lv_aload_n hx hb dX5_isLine_48 rfl (lv_at hl 0 rfl) ?_
      refine va_get (D := G.1) (ci := 5) (v := .ref d3) (C := RX5) (T := TX5) (N := 19) hx hb hts hinX5 hown hK.1 hP 0 rfl rfl 3 (by decide) lk16 (fun _ h9 => h9) rfl dX5_isLine_49 ?_
      refine lv_iload_n hx hb dX5_isLine_52 rfl (lv_at hl 1 rfl) ?_
      refine wiald h hx hb hK hP 3 rfl dX5_isLine_53 (fun v_558 h => ?_)
      refine lv_iload_n hx hb dX5_isLine_54 rfl (lv_at hl 3 rfl) ?_
      refine lv_imul hx hb dX5_isLine_55 ?_
      refine lv_icmp_ne (tgt := 63) hx hb dX5_isLine_56 (by decide) (fun c_559 => ?_) (fun c_559 => ?_)
      · have h := iq c_559 h
        refine lv_iconst (v := 0) hx hb dX5_isLine_63 (by decide) ?_
        obtain ⟨hz, h⟩ := zo_inv h
        obtain rfl := Option.some.inj h
        exact wrz hx hb hr hlocks hP hD hS (Nat.le_of_ble_eq_true rfl) (Nat.le_of_ble_eq_true rfl) hz rfl dX5_isLine_64
      · have h := ip c_559 h
        refine lv_iconst (v := 1) hx hb dX5_isLine_59 (by decide) ?_
        refine lv_goto (tgt := 64) hx hb dX5_isLine_60 (by decide) ?_
        obtain ⟨hz, h⟩ := zo_inv h
        obtain rfl := Option.some.inj h
        exact wrz hx hb hr hlocks hP hD hS (Nat.le_of_ble_eq_true rfl) (Nat.le_of_ble_eq_true rfl) hz rfl dX5_isLine_64
def fX5_lineOf_b6 (N : Nat) (d_n : Int32) (d_a : Nat → Int32) (d_b : Nat → Int32) (d_c : Nat → Int32) (x1 : Int32) (x2 : Int32) (x3 : Int32) : Nat → Int32 → Int32 → Option (Int32)
  | 0, _, _ => none
  | n + 1, x4, x5 => if d_n ≤ x5 then some x4 else bd (fX5_isLine N d_a d_b d_c x5 x1 x2 x3) (fun u_561 => if u_561 = 0 then fX5_lineOf_b6 N d_n d_a d_b d_c x1 x2 x3 n x4 (x5 + 1) else fX5_lineOf_b6 N d_n d_a d_b d_c x1 x2 x3 n x5 (x5 + 1))
def fX5_lineOf (N : Nat) (d_n : Int32) (d_a : Nat → Int32) (d_b : Nat → Int32) (d_c : Nat → Int32) (x1 : Int32) (x2 : Int32) (x3 : Int32) : Option (Int32) := fX5_lineOf_b6 N d_n d_a d_b d_c x1 x2 x3 N (-1) 0
set_option maxHeartbeats 4000000 in
set_option maxRecDepth 100000 in
theorem kX5_lineOf {l : Launch} {G : wG} (d0 d1 d2 d3 d4 d5 d6 d7 d8 d9 d10 d11 d12 : Nat) (d_n : Int32) (d_a : Nat → Int32) (d_b : Nat → Int32) (d_c : Nat → Int32) (d_k : Int32) (d_x : Nat → Int32) (d_y : Nat → Int32) (d_d : Nat → Int32) (d_r : Nat → Int32) (d_w : Nat → Int32) (d_e : Int32) (d_1 : Nat → Int32) (d_2 : Nat → Int32) (d_o : Nat → Int32) (d_g : Nat → Int32) (d_ra : Int32) (d_rb : Int32) (d_rc : Int32) (d_t : Int32) (x1 : Int32) (x2 : Int32) (x3 : Int32) (N : Nat) (v : Int32) (h : fX5_lineOf N d_n d_a d_b d_c x1 x2 x3 = some v) : wCi l G yX5_lineOf wsX5_lineOf ({ frames := 1, cells := 0, slots := 0, locals := 24 } : Room) [.ref d0, .int x1, .int x2, .int x3] (w_D G d0 d1 d2 d3 d4 d5 d6 d7 d8 d9 d10 d11 d12 d_n d_a d_b d_c d_k d_x d_y d_d d_r d_w d_e d_1 d_2 d_o d_g d_ra d_rb d_rc d_t) (w_D G d0 d1 d2 d3 d4 d5 d6 d7 d8 d9 d10 d11 d12 d_n d_a d_b d_c d_k d_x d_y d_d d_r d_w d_e d_1 d_2 d_o d_g d_ra d_rb d_rc d_t) 0 0 v := by
  refine wCi.mk (cc := cX5_lineOf) (maxL := 6) (ty := .int) (by decide) rfl (Nat.le_of_ble_eq_true rfl) ?_
  intro p e s m below meth c A ls hx hb hml hr hlocks hts hown hK hA hP hD hl
  have hx : p.tables.exec = Jvm.exec := hx
  have hown : s.vm.findClass RX5 = some m.cls := hown
  have hinX5 : ∀ w ∈ wsX50, w ∈ wsX5_lineOf := by decide +kernel
  have lk51 := hts (.fieldLink RX5 51 "ChamberwrightModel" "lines" "I") (by decide +kernel)
  have hS : va_S A s.heap s.heap [] := va_S.rf
  have hP : va_P G.1 vwCl (w_D G d0 d1 d2 d3 d4 d5 d6 d7 d8 d9 d10 d11 d12 d_n d_a d_b d_c d_k d_x d_y d_d d_r d_w d_e d_1 d_2 d_o d_g d_ra d_rb d_rc d_t) s.heap := hP
  have hD : va_D A (w_D G d0 d1 d2 d3 d4 d5 d6 d7 d8 d9 d10 d11 d12 d_n d_a d_b d_c d_k d_x d_y d_d d_r d_w d_e d_1 d_2 d_o d_g d_ra d_rb d_rc d_t) := hD
  have hl : lv_has ls 6 [(0, .ref d0), (1, .int x1), (2, .int x2), (3, .int x3)] := hl
  obtain ⟨args, hargs⟩ : ∃ z : Array Value, z = ([.ref d0, .int x1, .int x2, .int x3] : List Value).toArray := ⟨_, rfl⟩
  rw [← hargs]
  rw [← hargs] at hts
  have w_6 : ∀ (x1 : Int32) (x2 : Int32) (x3 : Int32)  (_z : Unit), ∀ (n : Nat) (x4 : Int32) (x5 : Int32)  (H : Heap) (locs : List Loc) (ls : Array Slot), va_P G.1 vwCl (w_D G d0 d1 d2 d3 d4 d5 d6 d7 d8 d9 d10 d11 d12 d_n d_a d_b d_c d_k d_x d_y d_d d_r d_w d_e d_1 d_2 d_o d_g d_ra d_rb d_rc d_t) H → va_D A (w_D G d0 d1 d2 d3 d4 d5 d6 d7 d8 d9 d10 d11 d12 d_n d_a d_b d_c d_k d_x d_y d_d d_r d_w d_e d_1 d_2 d_o d_g d_ra d_rb d_rc d_t) → va_S A s.heap H locs → lv_has ls 6 [(0, .ref d0), (1, .int x1), (2, .int x2), (3, .int x3), (4, .int x4), (5, .int x5)] → fX5_lineOf_b6 N d_n d_a d_b d_c x1 x2 x3 n x4 x5 = some v → W p l e ({ frames := 1, cells := 0, slots := 0, locals := 24 } : Room) s m args below meth c H locs 0 0 (wQi G A below args s (w_D G d0 d1 d2 d3 d4 d5 d6 d7 d8 d9 d10 d11 d12 d_n d_a d_b d_c d_k d_x d_y d_d d_r d_w d_e d_1 d_2 d_o d_g d_ra d_rb d_rc d_t) 0 0 v) (F0 m 6 ls []) := by
    intro x1 x2 x3 _z n
    induction n with
    | zero =>
      intro x4 x5 H locs ls hP hD hS hl h
      rw [fX5_lineOf_b6.eq_1] at h
      cases h
    | succ n ih =>
      intro x4 x5 H locs ls hP hD hS hl h
      rw [fX5_lineOf_b6.eq_2] at h
      refine lv_iload hx hb dX5_lineOf_6 (lv_at hl 5 rfl) ?_
      refine lv_aload_n hx hb dX5_lineOf_8 rfl (lv_at hl 0 rfl) ?_
      refine va_get (D := G.1) (ci := 5) (v := .int d_n) (C := RX5) (T := TX5) (N := 19) hx hb hts hinX5 hown hK.1 hP 0 rfl rfl 0 (by decide) lk51 (fun _ h9 => h9) rfl dX5_lineOf_9 ?_
      refine lv_icmp_ge (tgt := 42) hx hb dX5_lineOf_12 (by decide) (fun c_560 => ?_) (fun c_560 => ?_)
      · have h := ip c_560 h
        refine lv_iload hx hb dX5_lineOf_42 (lv_at hl 4 rfl) ?_
        obtain rfl := Option.some.inj h
        exact wri hx hb hr hlocks hP hD hS (Nat.le_of_ble_eq_true rfl) (Nat.le_of_ble_eq_true rfl) rfl dX5_lineOf_44
      · have h := iq c_560 h
        refine lv_aload_n hx hb dX5_lineOf_15 rfl (lv_at hl 0 rfl) ?_
        refine lv_iload hx hb dX5_lineOf_16 (lv_at hl 5 rfl) ?_
        refine lv_iload_n hx hb dX5_lineOf_18 rfl (lv_at hl 1 rfl) ?_
        refine lv_iload_n hx hb dX5_lineOf_19 rfl (lv_at hl 2 rfl) ?_
        refine lv_iload_n hx hb dX5_lineOf_20 rfl (lv_at hl 3 rfl) ?_
        obtain ⟨u_561, hc_562, h⟩ := bd_inv h
        refine wafter_i (wr := []) (w2 := (w_D G d0 d1 d2 d3 d4 d5 d6 d7 d8 d9 d10 d11 d12 d_n d_a d_b d_c d_k d_x d_y d_d d_r d_w d_e d_1 d_2 d_o d_g d_ra d_rb d_rc d_t)) (va_runV (As := [.int x5, .int x1, .int x2, .int x3]) (rest := []) ⟨hx, hb, hml, hown, hts⟩ (kX5_isLine (l := l) (G := G) d0 d1 d2 d3 d4 d5 d6 d7 d8 d9 d10 d11 d12 d_n d_a d_b d_c d_k d_x d_y d_d d_r d_w d_e d_1 d_2 d_o d_g d_ra d_rb d_rc d_t x5 x1 x2 x3 N u_561 hc_562 _) (cwV 4 hts gX5_lineOf_X5_isLine rfl rfl rfl (by decide +kernel) ⟨Nat.le_of_ble_eq_true rfl, Nat.le_of_ble_eq_true rfl⟩) (wPreV hP hD hK [0, 1, 2, 3, 4, 5, 6, 7, 8, 9, 10, 11, 12] rfl rfl (ci := 5) (qb := 0) rfl rfl rfl) rfl rfl hl.1 rfl (lv_room (Nat.le_of_ble_eq_true rfl)) dX5_lineOf_21 ⟨Nat.zero_le _, Nat.zero_le _⟩) hP hD hS hA [0, 1, 2, 3, 4, 5, 6, 7, 8, 9, 10, 11, 12] [] [0, 1, 2, 3, 4, 5, 6, 7, 8, 9, 10, 11, 12] rfl rfl rfl (by decide) rfl rfl (fun H locs hP hD hS => ?_)
        refine lv_if_eq (tgt := 32) hx hb dX5_lineOf_24 (by decide) (fun c_563 => ?_) (fun c_563 => ?_)
        · have h := ip c_563 h
          refine lv_iload hx hb dX5_lineOf_32 (lv_at hl 4 rfl) ?_
          refine lv_istore (lv' := [(4, .int x4), (0, .ref d0), (1, .int x1), (2, .int x2), (3, .int x3), (5, .int x5)]) hx hb dX5_lineOf_34 hl (by decide) rfl (fun ls hl => ?_)
          refine lv_iinc (v := (x5 + 1)) (lv' := [(5, .int (x5 + 1)), (4, .int x4), (0, .ref d0), (1, .int x1), (2, .int x2), (3, .int x3)]) hx hb dX5_lineOf_36 hl (k := 5) rfl rfl (by decide) rfl (fun ls hl => ?_)
          refine lv_goto (tgt := 6) hx hb dX5_lineOf_39 (by decide) ?_
          exact ih _ _ _ _ _ hP hD hS (lv_sub hl [2, 3, 4, 5, 1, 0] rfl) h
        · have h := iq c_563 h
          refine lv_iload hx hb dX5_lineOf_27 (lv_at hl 5 rfl) ?_
          refine lv_goto (tgt := 34) hx hb dX5_lineOf_29 (by decide) ?_
          refine lv_istore (lv' := [(4, .int x5), (0, .ref d0), (1, .int x1), (2, .int x2), (3, .int x3), (5, .int x5)]) hx hb dX5_lineOf_34 hl (by decide) rfl (fun ls hl => ?_)
          refine lv_iinc (v := (x5 + 1)) (lv' := [(5, .int (x5 + 1)), (4, .int x5), (0, .ref d0), (1, .int x1), (2, .int x2), (3, .int x3)]) hx hb dX5_lineOf_36 hl (k := 5) rfl rfl (by decide) rfl (fun ls hl => ?_)
          refine lv_goto (tgt := 6) hx hb dX5_lineOf_39 (by decide) ?_
          exact ih _ _ _ _ _ hP hD hS (lv_sub hl [2, 3, 4, 5, 1, 0] rfl) h
  rw [fX5_lineOf.eq_1] at h
  refine lv_iconst (v := (-1)) hx hb dX5_lineOf_0 (by decide) ?_
  refine lv_istore (lv' := [(4, .int (-1)), (0, .ref d0), (1, .int x1), (2, .int x2), (3, .int x3)]) hx hb dX5_lineOf_1 hl (by decide) rfl (fun ls hl => ?_)
  refine lv_iconst (v := 0) hx hb dX5_lineOf_3 (by decide) ?_
  refine lv_istore (lv' := [(5, .int 0), (4, .int (-1)), (0, .ref d0), (1, .int x1), (2, .int x2), (3, .int x3)]) hx hb dX5_lineOf_4 hl (by decide) rfl (fun ls hl => ?_)
  exact w_6  _ _ _  ()  N _ _  _ _ _ hP hD hS (lv_sub hl [2, 3, 4, 5, 1, 0] rfl) h
def fX5_line_b82 (N : Nat) (x1 : Int32) (x2 : Int32) (x3 : Int32) (d_n : Int32) (d_a : Nat → Int32) (d_b : Nat → Int32) (d_c : Nat → Int32) (d_t : Int32) (s1 : Int32) : Option (Int32 × Int32 × (Nat → Int32) × (Nat → Int32) × (Nat → Int32) × Int32) := bd (fX5_fails N d_t s1 2) (fun u_564 => if u_564.1 = 0 then ck 9 d_n (ck 9 d_n (ck 9 d_n (some (((d_n + 1) - 1), (d_n + 1), (upd d_a (Int32.toNatClampNeg d_n) x1), (upd d_b (Int32.toNatClampNeg d_n) x2), (upd d_c (Int32.toNatClampNeg d_n) x3), u_564.2)))) else some (0, d_n, d_a, d_b, d_c, u_564.2))
def fX5_line_b47 (N : Nat) (x1 : Int32) (x2 : Int32) (x3 : Int32) (d_n : Int32) (d_a : Nat → Int32) (d_b : Nat → Int32) (d_c : Nat → Int32) (d_t : Int32) (s1 : Int32) : Option (Int32 × Int32 × (Nat → Int32) × (Nat → Int32) × (Nat → Int32) × Int32) := bd (fX5_fails N d_t s1 1) (fun u_567 => if u_567.1 = 0 then bd (fX5_lineOf N d_n d_a d_b d_c x1 x2 x3) (fun u_570 => if u_570 = (-1) then if 9 ≤ d_n then fX5_line_b82 N x1 x2 x3 d_n d_a d_b d_c u_567.2 0 else fX5_line_b82 N x1 x2 x3 d_n d_a d_b d_c u_567.2 1 else fX5_line_b82 N x1 x2 x3 d_n d_a d_b d_c u_567.2 0) else some (0, d_n, d_a, d_b, d_c, u_567.2))
def fX5_line (N : Nat) (d_n : Int32) (d_a : Nat → Int32) (d_b : Nat → Int32) (d_c : Nat → Int32) (d_t : Int32) (x1 : Int32) (x2 : Int32) (x3 : Int32) : Option (Int32 × Int32 × (Nat → Int32) × (Nat → Int32) × (Nat → Int32) × Int32) := bd (fX5_in N x1 (-9) 9) (fun u_574 => if u_574 = 0 then fX5_line_b47 N x1 x2 x3 d_n d_a d_b d_c d_t 0 else bd (fX5_in N x2 (-9) 9) (fun u_577 => if u_577 = 0 then fX5_line_b47 N x1 x2 x3 d_n d_a d_b d_c d_t 0 else bd (fX5_in N x3 (-9) 9) (fun u_580 => if u_580 = 0 then fX5_line_b47 N x1 x2 x3 d_n d_a d_b d_c d_t 0 else if x1 = 0 then if x2 = 0 then fX5_line_b47 N x1 x2 x3 d_n d_a d_b d_c d_t 0 else fX5_line_b47 N x1 x2 x3 d_n d_a d_b d_c d_t 1 else fX5_line_b47 N x1 x2 x3 d_n d_a d_b d_c d_t 1)))
set_option maxHeartbeats 4000000 in
set_option maxRecDepth 100000 in
theorem kX5_line {l : Launch} {G : wG} (d0 d1 d2 d3 d4 d5 d6 d7 d8 d9 d10 d11 d12 : Nat) (d_n : Int32) (d_a : Nat → Int32) (d_b : Nat → Int32) (d_c : Nat → Int32) (d_k : Int32) (d_x : Nat → Int32) (d_y : Nat → Int32) (d_d : Nat → Int32) (d_r : Nat → Int32) (d_w : Nat → Int32) (d_e : Int32) (d_1 : Nat → Int32) (d_2 : Nat → Int32) (d_o : Nat → Int32) (d_g : Nat → Int32) (d_ra : Int32) (d_rb : Int32) (d_rc : Int32) (d_t : Int32) (x1 : Int32) (x2 : Int32) (x3 : Int32) (N : Nat) (v : Int32 × Int32 × (Nat → Int32) × (Nat → Int32) × (Nat → Int32) × Int32) (h : fX5_line N d_n d_a d_b d_c d_t x1 x2 x3 = some v) : wCi l G yX5_line wsX5_line ({ frames := 2, cells := 0, slots := 0, locals := 49 } : Room) [.ref d0, .int x1, .int x2, .int x3] (w_D G d0 d1 d2 d3 d4 d5 d6 d7 d8 d9 d10 d11 d12 d_n d_a d_b d_c d_k d_x d_y d_d d_r d_w d_e d_1 d_2 d_o d_g d_ra d_rb d_rc d_t) (w_D G d0 d1 d2 d3 d4 d5 d6 d7 d8 d9 d10 d11 d12 v.2.1 v.2.2.1 v.2.2.2.1 v.2.2.2.2.1 d_k d_x d_y d_d d_r d_w d_e d_1 d_2 d_o d_g d_ra d_rb d_rc v.2.2.2.2.2) 0 0 v.1 := by
  refine wCi.mk (cc := cX5_line) (maxL := 4) (ty := .int) (by decide) rfl (Nat.le_of_ble_eq_true rfl) ?_
  intro p e s m below meth c A ls hx hb hml hr hlocks hts hown hK hA hP hD hl
  have hx : p.tables.exec = Jvm.exec := hx
  have hown : s.vm.findClass RX5 = some m.cls := hown
  have hinX5 : ∀ w ∈ wsX50, w ∈ wsX5_line := by decide +kernel
  have lk13 := hts (.fieldLink RX5 13 "ChamberwrightModel" "lb" "[I") (by decide +kernel)
  have lk16 := hts (.fieldLink RX5 16 "ChamberwrightModel" "lc" "[I") (by decide +kernel)
  have lk51 := hts (.fieldLink RX5 51 "ChamberwrightModel" "lines" "I") (by decide +kernel)
  have lk7 := hts (.fieldLink RX5 7 "ChamberwrightModel" "la" "[I") (by decide +kernel)
  have hS : va_S A s.heap s.heap [] := va_S.rf
  have hP : va_P G.1 vwCl (w_D G d0 d1 d2 d3 d4 d5 d6 d7 d8 d9 d10 d11 d12 d_n d_a d_b d_c d_k d_x d_y d_d d_r d_w d_e d_1 d_2 d_o d_g d_ra d_rb d_rc d_t) s.heap := hP
  have hD : va_D A (w_D G d0 d1 d2 d3 d4 d5 d6 d7 d8 d9 d10 d11 d12 d_n d_a d_b d_c d_k d_x d_y d_d d_r d_w d_e d_1 d_2 d_o d_g d_ra d_rb d_rc d_t) := hD
  have hl : lv_has ls 4 [(0, .ref d0), (1, .int x1), (2, .int x2), (3, .int x3)] := hl
  obtain ⟨args, hargs⟩ : ∃ z : Array Value, z = ([.ref d0, .int x1, .int x2, .int x3] : List Value).toArray := ⟨_, rfl⟩
  rw [← hargs]
  rw [← hargs] at hts
  have w_82 : ∀ (x1 : Int32) (x2 : Int32) (x3 : Int32) (d_n : Int32) (d_a : Nat → Int32) (d_b : Nat → Int32) (d_c : Nat → Int32) (d_t : Int32) (s1 : Int32) (H : Heap) (locs : List Loc) (ls : Array Slot), va_P G.1 vwCl (w_D G d0 d1 d2 d3 d4 d5 d6 d7 d8 d9 d10 d11 d12 d_n d_a d_b d_c d_k d_x d_y d_d d_r d_w d_e d_1 d_2 d_o d_g d_ra d_rb d_rc d_t) H → va_D A (w_D G d0 d1 d2 d3 d4 d5 d6 d7 d8 d9 d10 d11 d12 d_n d_a d_b d_c d_k d_x d_y d_d d_r d_w d_e d_1 d_2 d_o d_g d_ra d_rb d_rc d_t) → va_S A s.heap H locs → lv_has ls 4 [(0, .ref d0), (1, .int x1), (2, .int x2), (3, .int x3)] → fX5_line_b82 N x1 x2 x3 d_n d_a d_b d_c d_t s1 = some v → W p l e ({ frames := 2, cells := 0, slots := 0, locals := 49 } : Room) s m args below meth c H locs 0 0 (wQi G A below args s (w_D G d0 d1 d2 d3 d4 d5 d6 d7 d8 d9 d10 d11 d12 v.2.1 v.2.2.1 v.2.2.2.1 v.2.2.2.2.1 d_k d_x d_y d_d d_r d_w d_e d_1 d_2 d_o d_g d_ra d_rb d_rc v.2.2.2.2.2) 0 0 v.1) (F0 m 82 ls [.int s1, .ref d0]) := by
    intro x1 x2 x3 d_n d_a d_b d_c d_t s1 H locs ls hP hD hS hl h
    rw [fX5_line_b82.eq_1] at h
    refine lv_iconst (v := 2) hx hb dX5_line_82 (by decide) ?_
    obtain ⟨u_564, hc_565, h⟩ := bd_inv h
    refine wafter_i (wr := []) (w2 := (w_D G d0 d1 d2 d3 d4 d5 d6 d7 d8 d9 d10 d11 d12 d_n d_a d_b d_c d_k d_x d_y d_d d_r d_w d_e d_1 d_2 d_o d_g d_ra d_rb d_rc u_564.2)) (va_runV (As := [.int s1, .int 2]) (rest := []) ⟨hx, hb, hml, hown, hts⟩ (kX5_fails (l := l) (G := G) d0 d1 d2 d3 d4 d5 d6 d7 d8 d9 d10 d11 d12 d_n d_a d_b d_c d_k d_x d_y d_d d_r d_w d_e d_1 d_2 d_o d_g d_ra d_rb d_rc d_t s1 2 N u_564 hc_565 _) (cwV 2 hts gX5_line_X5_fails rfl rfl rfl (by decide +kernel) ⟨Nat.le_of_ble_eq_true rfl, Nat.le_of_ble_eq_true rfl⟩) (wPreV hP hD hK [0, 1, 2, 3, 4, 5, 6, 7, 8, 9, 10, 11, 12] rfl rfl (ci := 5) (qb := 0) rfl rfl rfl) rfl rfl hl.1 rfl (lv_room (Nat.le_of_ble_eq_true rfl)) dX5_line_83 ⟨Nat.zero_le _, Nat.zero_le _⟩) hP hD hS hA [0, 1, 2, 3, 4, 5, 6, 7, 8, 9, 10, 11, 12] [] [0, 1, 2, 3, 4, 5, 6, 7, 8, 9, 10, 11, 12] rfl rfl rfl (by decide) rfl rfl (fun H locs hP hD hS => ?_)
    refine lv_if_eq (tgt := 91) hx hb dX5_line_86 (by decide) (fun c_566 => ?_) (fun c_566 => ?_)
    · have h := ip c_566 h
      refine lv_aload_n hx hb dX5_line_91 rfl (lv_at hl 0 rfl) ?_
      refine va_get (D := G.1) (ci := 5) (v := .ref d1) (C := RX5) (T := TX5) (N := 19) hx hb hts hinX5 hown hK.1 hP 0 rfl rfl 1 (by decide) lk7 (fun _ h9 => h9) rfl dX5_line_92 ?_
      refine lv_aload_n hx hb dX5_line_95 rfl (lv_at hl 0 rfl) ?_
      refine va_get (D := G.1) (ci := 5) (v := .int d_n) (C := RX5) (T := TX5) (N := 19) hx hb hts hinX5 hown hK.1 hP 0 rfl rfl 0 (by decide) lk51 (fun _ h9 => h9) rfl dX5_line_96 ?_
      refine lv_iload_n hx hb dX5_line_99 rfl (lv_at hl 1 rfl) ?_
      refine wiast h hx hb hK hP hD hS 1 rfl dX5_line_100 (fun H locs hP hD hS h => ?_)
      have hP : va_P G.1 vwCl (w_D G d0 d1 d2 d3 d4 d5 d6 d7 d8 d9 d10 d11 d12 d_n ((upd d_a (Int32.toNatClampNeg d_n) x1)) d_b d_c d_k d_x d_y d_d d_r d_w d_e d_1 d_2 d_o d_g d_ra d_rb d_rc u_564.2) H := hP
      have hD : va_D A (w_D G d0 d1 d2 d3 d4 d5 d6 d7 d8 d9 d10 d11 d12 d_n ((upd d_a (Int32.toNatClampNeg d_n) x1)) d_b d_c d_k d_x d_y d_d d_r d_w d_e d_1 d_2 d_o d_g d_ra d_rb d_rc u_564.2) := hD
      refine lv_aload_n hx hb dX5_line_101 rfl (lv_at hl 0 rfl) ?_
      refine va_get (D := G.1) (ci := 5) (v := .ref d2) (C := RX5) (T := TX5) (N := 19) hx hb hts hinX5 hown hK.1 hP 0 rfl rfl 2 (by decide) lk13 (fun _ h9 => h9) rfl dX5_line_102 ?_
      refine lv_aload_n hx hb dX5_line_105 rfl (lv_at hl 0 rfl) ?_
      refine va_get (D := G.1) (ci := 5) (v := .int d_n) (C := RX5) (T := TX5) (N := 19) hx hb hts hinX5 hown hK.1 hP 0 rfl rfl 0 (by decide) lk51 (fun _ h9 => h9) rfl dX5_line_106 ?_
      refine lv_iload_n hx hb dX5_line_109 rfl (lv_at hl 2 rfl) ?_
      refine wiast h hx hb hK hP hD hS 2 rfl dX5_line_110 (fun H locs hP hD hS h => ?_)
      have hP : va_P G.1 vwCl (w_D G d0 d1 d2 d3 d4 d5 d6 d7 d8 d9 d10 d11 d12 d_n ((upd d_a (Int32.toNatClampNeg d_n) x1)) ((upd d_b (Int32.toNatClampNeg d_n) x2)) d_c d_k d_x d_y d_d d_r d_w d_e d_1 d_2 d_o d_g d_ra d_rb d_rc u_564.2) H := hP
      have hD : va_D A (w_D G d0 d1 d2 d3 d4 d5 d6 d7 d8 d9 d10 d11 d12 d_n ((upd d_a (Int32.toNatClampNeg d_n) x1)) ((upd d_b (Int32.toNatClampNeg d_n) x2)) d_c d_k d_x d_y d_d d_r d_w d_e d_1 d_2 d_o d_g d_ra d_rb d_rc u_564.2) := hD
      refine lv_aload_n hx hb dX5_line_111 rfl (lv_at hl 0 rfl) ?_
      refine va_get (D := G.1) (ci := 5) (v := .ref d3) (C := RX5) (T := TX5) (N := 19) hx hb hts hinX5 hown hK.1 hP 0 rfl rfl 3 (by decide) lk16 (fun _ h9 => h9) rfl dX5_line_112 ?_
      refine lv_aload_n hx hb dX5_line_115 rfl (lv_at hl 0 rfl) ?_
      refine va_get (D := G.1) (ci := 5) (v := .int d_n) (C := RX5) (T := TX5) (N := 19) hx hb hts hinX5 hown hK.1 hP 0 rfl rfl 0 (by decide) lk51 (fun _ h9 => h9) rfl dX5_line_116 ?_
      refine lv_iload_n hx hb dX5_line_119 rfl (lv_at hl 3 rfl) ?_
      refine wiast h hx hb hK hP hD hS 3 rfl dX5_line_120 (fun H locs hP hD hS h => ?_)
      have hP : va_P G.1 vwCl (w_D G d0 d1 d2 d3 d4 d5 d6 d7 d8 d9 d10 d11 d12 d_n ((upd d_a (Int32.toNatClampNeg d_n) x1)) ((upd d_b (Int32.toNatClampNeg d_n) x2)) ((upd d_c (Int32.toNatClampNeg d_n) x3)) d_k d_x d_y d_d d_r d_w d_e d_1 d_2 d_o d_g d_ra d_rb d_rc u_564.2) H := hP
      have hD : va_D A (w_D G d0 d1 d2 d3 d4 d5 d6 d7 d8 d9 d10 d11 d12 d_n ((upd d_a (Int32.toNatClampNeg d_n) x1)) ((upd d_b (Int32.toNatClampNeg d_n) x2)) ((upd d_c (Int32.toNatClampNeg d_n) x3)) d_k d_x d_y d_d d_r d_w d_e d_1 d_2 d_o d_g d_ra d_rb d_rc u_564.2) := hD
      refine lv_aload_n hx hb dX5_line_121 rfl (lv_at hl 0 rfl) ?_
      refine lv_dup hx hb dX5_line_122 rfl ?_
      refine va_get (D := G.1) (ci := 5) (v := .int d_n) (C := RX5) (T := TX5) (N := 19) hx hb hts hinX5 hown hK.1 hP 0 rfl rfl 0 (by decide) lk51 (fun _ h9 => h9) rfl dX5_line_123 ?_
      refine lv_iconst (v := 1) hx hb dX5_line_126 (by decide) ?_
      refine lv_iadd hx hb dX5_line_127 ?_
      refine va_put (D := G.1) (ci := 5) (v := .int (d_n + 1)) (ty := .int) (C := RX5) (T := TX5) (N := 19) hx hb hts hinX5 tyX5 tyX5_ok nmX5 hown hK.1 hP hD hS 0 rfl rfl 0 (by decide) lk51 (fun _ h9 => h9) rfl (by decide +kernel) rfl rfl (Nat.le_of_ble_eq_true rfl) dX5_line_128 (fun H locs hP hD hS => ?_)
      have hP : va_P G.1 vwCl (w_D G d0 d1 d2 d3 d4 d5 d6 d7 d8 d9 d10 d11 d12 ((d_n + 1)) ((upd d_a (Int32.toNatClampNeg d_n) x1)) ((upd d_b (Int32.toNatClampNeg d_n) x2)) ((upd d_c (Int32.toNatClampNeg d_n) x3)) d_k d_x d_y d_d d_r d_w d_e d_1 d_2 d_o d_g d_ra d_rb d_rc u_564.2) H := hP
      have hD : va_D A (w_D G d0 d1 d2 d3 d4 d5 d6 d7 d8 d9 d10 d11 d12 ((d_n + 1)) ((upd d_a (Int32.toNatClampNeg d_n) x1)) ((upd d_b (Int32.toNatClampNeg d_n) x2)) ((upd d_c (Int32.toNatClampNeg d_n) x3)) d_k d_x d_y d_d d_r d_w d_e d_1 d_2 d_o d_g d_ra d_rb d_rc u_564.2) := hD
      refine lv_aload_n hx hb dX5_line_131 rfl (lv_at hl 0 rfl) ?_
      refine va_get (D := G.1) (ci := 5) (v := .int (d_n + 1)) (C := RX5) (T := TX5) (N := 19) hx hb hts hinX5 hown hK.1 hP 0 rfl rfl 0 (by decide) lk51 (fun _ h9 => h9) rfl dX5_line_132 ?_
      refine lv_iconst (v := 1) hx hb dX5_line_135 (by decide) ?_
      refine lv_isub hx hb dX5_line_136 ?_
      obtain rfl := Option.some.inj h
      exact wri hx hb hr hlocks hP hD hS (Nat.le_of_ble_eq_true rfl) (Nat.le_of_ble_eq_true rfl) rfl dX5_line_137
    · have h := iq c_566 h
      refine lv_iconst (v := 0) hx hb dX5_line_89 (by decide) ?_
      obtain rfl := Option.some.inj h
      exact wri hx hb hr hlocks hP hD hS (Nat.le_of_ble_eq_true rfl) (Nat.le_of_ble_eq_true rfl) rfl dX5_line_90
  have w_47 : ∀ (x1 : Int32) (x2 : Int32) (x3 : Int32) (d_n : Int32) (d_a : Nat → Int32) (d_b : Nat → Int32) (d_c : Nat → Int32) (d_t : Int32) (s1 : Int32) (H : Heap) (locs : List Loc) (ls : Array Slot), va_P G.1 vwCl (w_D G d0 d1 d2 d3 d4 d5 d6 d7 d8 d9 d10 d11 d12 d_n d_a d_b d_c d_k d_x d_y d_d d_r d_w d_e d_1 d_2 d_o d_g d_ra d_rb d_rc d_t) H → va_D A (w_D G d0 d1 d2 d3 d4 d5 d6 d7 d8 d9 d10 d11 d12 d_n d_a d_b d_c d_k d_x d_y d_d d_r d_w d_e d_1 d_2 d_o d_g d_ra d_rb d_rc d_t) → va_S A s.heap H locs → lv_has ls 4 [(0, .ref d0), (1, .int x1), (2, .int x2), (3, .int x3)] → fX5_line_b47 N x1 x2 x3 d_n d_a d_b d_c d_t s1 = some v → W p l e ({ frames := 2, cells := 0, slots := 0, locals := 49 } : Room) s m args below meth c H locs 0 0 (wQi G A below args s (w_D G d0 d1 d2 d3 d4 d5 d6 d7 d8 d9 d10 d11 d12 v.2.1 v.2.2.1 v.2.2.2.1 v.2.2.2.2.1 d_k d_x d_y d_d d_r d_w d_e d_1 d_2 d_o d_g d_ra d_rb d_rc v.2.2.2.2.2) 0 0 v.1) (F0 m 47 ls [.int s1, .ref d0]) := by
    intro x1 x2 x3 d_n d_a d_b d_c d_t s1 H locs ls hP hD hS hl h
    rw [fX5_line_b47.eq_1] at h
    refine lv_iconst (v := 1) hx hb dX5_line_47 (by decide) ?_
    obtain ⟨u_567, hc_568, h⟩ := bd_inv h
    refine wafter_i (wr := []) (w2 := (w_D G d0 d1 d2 d3 d4 d5 d6 d7 d8 d9 d10 d11 d12 d_n d_a d_b d_c d_k d_x d_y d_d d_r d_w d_e d_1 d_2 d_o d_g d_ra d_rb d_rc u_567.2)) (va_runV (As := [.int s1, .int 1]) (rest := []) ⟨hx, hb, hml, hown, hts⟩ (kX5_fails (l := l) (G := G) d0 d1 d2 d3 d4 d5 d6 d7 d8 d9 d10 d11 d12 d_n d_a d_b d_c d_k d_x d_y d_d d_r d_w d_e d_1 d_2 d_o d_g d_ra d_rb d_rc d_t s1 1 N u_567 hc_568 _) (cwV 2 hts gX5_line_X5_fails rfl rfl rfl (by decide +kernel) ⟨Nat.le_of_ble_eq_true rfl, Nat.le_of_ble_eq_true rfl⟩) (wPreV hP hD hK [0, 1, 2, 3, 4, 5, 6, 7, 8, 9, 10, 11, 12] rfl rfl (ci := 5) (qb := 0) rfl rfl rfl) rfl rfl hl.1 rfl (lv_room (Nat.le_of_ble_eq_true rfl)) dX5_line_48 ⟨Nat.zero_le _, Nat.zero_le _⟩) hP hD hS hA [0, 1, 2, 3, 4, 5, 6, 7, 8, 9, 10, 11, 12] [] [0, 1, 2, 3, 4, 5, 6, 7, 8, 9, 10, 11, 12] rfl rfl rfl (by decide) rfl rfl (fun H locs hP hD hS => ?_)
    refine lv_if_eq (tgt := 56) hx hb dX5_line_51 (by decide) (fun c_569 => ?_) (fun c_569 => ?_)
    · have h := ip c_569 h
      refine lv_aload_n hx hb dX5_line_56 rfl (lv_at hl 0 rfl) ?_
      refine lv_aload_n hx hb dX5_line_57 rfl (lv_at hl 0 rfl) ?_
      refine lv_iload_n hx hb dX5_line_58 rfl (lv_at hl 1 rfl) ?_
      refine lv_iload_n hx hb dX5_line_59 rfl (lv_at hl 2 rfl) ?_
      refine lv_iload_n hx hb dX5_line_60 rfl (lv_at hl 3 rfl) ?_
      obtain ⟨u_570, hc_571, h⟩ := bd_inv h
      refine wafter_i (wr := []) (w2 := (w_D G d0 d1 d2 d3 d4 d5 d6 d7 d8 d9 d10 d11 d12 d_n d_a d_b d_c d_k d_x d_y d_d d_r d_w d_e d_1 d_2 d_o d_g d_ra d_rb d_rc u_567.2)) (va_runV (As := [.int x1, .int x2, .int x3]) (rest := [.ref d0]) ⟨hx, hb, hml, hown, hts⟩ (kX5_lineOf (l := l) (G := G) d0 d1 d2 d3 d4 d5 d6 d7 d8 d9 d10 d11 d12 d_n d_a d_b d_c d_k d_x d_y d_d d_r d_w d_e d_1 d_2 d_o d_g d_ra d_rb d_rc u_567.2 x1 x2 x3 N u_570 hc_571 _) (cwV 3 hts gX5_line_X5_lineOf rfl rfl rfl (by decide +kernel) ⟨Nat.le_of_ble_eq_true rfl, Nat.le_of_ble_eq_true rfl⟩) (wPreV hP hD hK [0, 1, 2, 3, 4, 5, 6, 7, 8, 9, 10, 11, 12] rfl rfl (ci := 5) (qb := 0) rfl rfl rfl) rfl rfl hl.1 rfl (lv_room (Nat.le_of_ble_eq_true rfl)) dX5_line_61 ⟨Nat.zero_le _, Nat.zero_le _⟩) hP hD hS hA [0, 1, 2, 3, 4, 5, 6, 7, 8, 9, 10, 11, 12] [] [0, 1, 2, 3, 4, 5, 6, 7, 8, 9, 10, 11, 12] rfl rfl rfl (by decide) rfl rfl (fun H locs hP hD hS => ?_)
      refine lv_iconst (v := (-1)) hx hb dX5_line_64 (by decide) ?_
      refine lv_icmp_ne (tgt := 81) hx hb dX5_line_65 (by decide) (fun c_572 => ?_) (fun c_572 => ?_)
      · have h := iq c_572 h
        refine lv_iconst (v := 0) hx hb dX5_line_81 (by decide) ?_
        exact w_82  _ _ _ _ _ _ _ _ _ _ _ _  hP hD hS (lv_sub hl [0, 1, 2, 3] rfl) h
      · have h := ip c_572 h
        refine lv_aload_n hx hb dX5_line_68 rfl (lv_at hl 0 rfl) ?_
        refine va_get (D := G.1) (ci := 5) (v := .int d_n) (C := RX5) (T := TX5) (N := 19) hx hb hts hinX5 hown hK.1 hP 0 rfl rfl 0 (by decide) lk51 (fun _ h9 => h9) rfl dX5_line_69 ?_
        refine lv_bipush (v := 9) hx hb dX5_line_72 (by decide) ?_
        refine lv_icmp_ge (tgt := 81) hx hb dX5_line_74 (by decide) (fun c_573 => ?_) (fun c_573 => ?_)
        · have h := ip c_573 h
          refine lv_iconst (v := 0) hx hb dX5_line_81 (by decide) ?_
          exact w_82  _ _ _ _ _ _ _ _ _ _ _ _  hP hD hS (lv_sub hl [0, 1, 2, 3] rfl) h
        · have h := iq c_573 h
          refine lv_iconst (v := 1) hx hb dX5_line_77 (by decide) ?_
          refine lv_goto (tgt := 82) hx hb dX5_line_78 (by decide) ?_
          exact w_82  _ _ _ _ _ _ _ _ _ _ _ _  hP hD hS (lv_sub hl [0, 1, 2, 3] rfl) h
    · have h := iq c_569 h
      refine lv_iconst (v := 0) hx hb dX5_line_54 (by decide) ?_
      obtain rfl := Option.some.inj h
      exact wri hx hb hr hlocks hP hD hS (Nat.le_of_ble_eq_true rfl) (Nat.le_of_ble_eq_true rfl) rfl dX5_line_55
  rw [fX5_line.eq_1] at h
  refine lv_aload_n hx hb dX5_line_0 rfl (lv_at hl 0 rfl) ?_
  refine lv_iload_n hx hb dX5_line_1 rfl (lv_at hl 1 rfl) ?_
  refine lv_bipush (v := (-9)) hx hb dX5_line_2 (by decide) ?_
  refine lv_bipush (v := 9) hx hb dX5_line_4 (by decide) ?_
  obtain ⟨u_574, hc_575, h⟩ := bd_inv h
  refine wafter_i (wr := (w_D G d0 d1 d2 d3 d4 d5 d6 d7 d8 d9 d10 d11 d12 d_n d_a d_b d_c d_k d_x d_y d_d d_r d_w d_e d_1 d_2 d_o d_g d_ra d_rb d_rc d_t)) (w2 := (w_D G d0 d1 d2 d3 d4 d5 d6 d7 d8 d9 d10 d11 d12 d_n d_a d_b d_c d_k d_x d_y d_d d_r d_w d_e d_1 d_2 d_o d_g d_ra d_rb d_rc d_t)) (va_runS (As := [.int x1, .int (-9), .int 9]) (rest := [.ref d0]) ⟨hx, hb, hml, hown, hts⟩ (kX5_in (l := l) (G := G)   x1 (-9) 9 N u_574 hc_575 _) (va_cwS 3 hts gX5_line_X5_in rfl rfl rfl (by decide +kernel) ⟨Nat.le_of_ble_eq_true rfl, Nat.le_of_ble_eq_true rfl⟩) (wPreS hP hD hK [] rfl rfl) rfl rfl hl.1 rfl (lv_room (Nat.le_of_ble_eq_true rfl)) dX5_line_6 ⟨Nat.zero_le _, Nat.zero_le _⟩) hP hD hS hA [] [0, 1, 2, 3, 4, 5, 6, 7, 8, 9, 10, 11, 12] [0, 1, 2, 3, 4, 5, 6, 7, 8, 9, 10, 11, 12] rfl rfl rfl (by decide) rfl rfl (fun H locs hP hD hS => ?_)
  refine lv_if_eq (tgt := 46) hx hb dX5_line_9 (by decide) (fun c_576 => ?_) (fun c_576 => ?_)
  · have h := ip c_576 h
    refine lv_iconst (v := 0) hx hb dX5_line_46 (by decide) ?_
    exact w_47  _ _ _ _ _ _ _ _ _ _ _ _  hP hD hS (lv_sub hl [0, 1, 2, 3] rfl) h
  · have h := iq c_576 h
    refine lv_iload_n hx hb dX5_line_12 rfl (lv_at hl 2 rfl) ?_
    refine lv_bipush (v := (-9)) hx hb dX5_line_13 (by decide) ?_
    refine lv_bipush (v := 9) hx hb dX5_line_15 (by decide) ?_
    obtain ⟨u_577, hc_578, h⟩ := bd_inv h
    refine wafter_i (wr := (w_D G d0 d1 d2 d3 d4 d5 d6 d7 d8 d9 d10 d11 d12 d_n d_a d_b d_c d_k d_x d_y d_d d_r d_w d_e d_1 d_2 d_o d_g d_ra d_rb d_rc d_t)) (w2 := (w_D G d0 d1 d2 d3 d4 d5 d6 d7 d8 d9 d10 d11 d12 d_n d_a d_b d_c d_k d_x d_y d_d d_r d_w d_e d_1 d_2 d_o d_g d_ra d_rb d_rc d_t)) (va_runS (As := [.int x2, .int (-9), .int 9]) (rest := [.ref d0]) ⟨hx, hb, hml, hown, hts⟩ (kX5_in (l := l) (G := G)   x2 (-9) 9 N u_577 hc_578 _) (va_cwS 3 hts gX5_line_X5_in rfl rfl rfl (by decide +kernel) ⟨Nat.le_of_ble_eq_true rfl, Nat.le_of_ble_eq_true rfl⟩) (wPreS hP hD hK [] rfl rfl) rfl rfl hl.1 rfl (lv_room (Nat.le_of_ble_eq_true rfl)) dX5_line_17 ⟨Nat.zero_le _, Nat.zero_le _⟩) hP hD hS hA [] [0, 1, 2, 3, 4, 5, 6, 7, 8, 9, 10, 11, 12] [0, 1, 2, 3, 4, 5, 6, 7, 8, 9, 10, 11, 12] rfl rfl rfl (by decide) rfl rfl (fun H locs hP hD hS => ?_)
    refine lv_if_eq (tgt := 46) hx hb dX5_line_20 (by decide) (fun c_579 => ?_) (fun c_579 => ?_)
    · have h := ip c_579 h
      refine lv_iconst (v := 0) hx hb dX5_line_46 (by decide) ?_
      exact w_47  _ _ _ _ _ _ _ _ _ _ _ _  hP hD hS (lv_sub hl [0, 1, 2, 3] rfl) h
    · have h := iq c_579 h
      refine lv_iload_n hx hb dX5_line_23 rfl (lv_at hl 3 rfl) ?_
      refine lv_bipush (v := (-9)) hx hb dX5_line_24 (by decide) ?_
      refine lv_bipush (v := 9) hx hb dX5_line_26 (by decide) ?_
      obtain ⟨u_580, hc_581, h⟩ := bd_inv h
      refine wafter_i (wr := (w_D G d0 d1 d2 d3 d4 d5 d6 d7 d8 d9 d10 d11 d12 d_n d_a d_b d_c d_k d_x d_y d_d d_r d_w d_e d_1 d_2 d_o d_g d_ra d_rb d_rc d_t)) (w2 := (w_D G d0 d1 d2 d3 d4 d5 d6 d7 d8 d9 d10 d11 d12 d_n d_a d_b d_c d_k d_x d_y d_d d_r d_w d_e d_1 d_2 d_o d_g d_ra d_rb d_rc d_t)) (va_runS (As := [.int x3, .int (-9), .int 9]) (rest := [.ref d0]) ⟨hx, hb, hml, hown, hts⟩ (kX5_in (l := l) (G := G)   x3 (-9) 9 N u_580 hc_581 _) (va_cwS 3 hts gX5_line_X5_in rfl rfl rfl (by decide +kernel) ⟨Nat.le_of_ble_eq_true rfl, Nat.le_of_ble_eq_true rfl⟩) (wPreS hP hD hK [] rfl rfl) rfl rfl hl.1 rfl (lv_room (Nat.le_of_ble_eq_true rfl)) dX5_line_28 ⟨Nat.zero_le _, Nat.zero_le _⟩) hP hD hS hA [] [0, 1, 2, 3, 4, 5, 6, 7, 8, 9, 10, 11, 12] [0, 1, 2, 3, 4, 5, 6, 7, 8, 9, 10, 11, 12] rfl rfl rfl (by decide) rfl rfl (fun H locs hP hD hS => ?_)
      refine lv_if_eq (tgt := 46) hx hb dX5_line_31 (by decide) (fun c_582 => ?_) (fun c_582 => ?_)
      · have h := ip c_582 h
        refine lv_iconst (v := 0) hx hb dX5_line_46 (by decide) ?_
        exact w_47  _ _ _ _ _ _ _ _ _ _ _ _  hP hD hS (lv_sub hl [0, 1, 2, 3] rfl) h
      · have h := iq c_582 h
        refine lv_iload_n hx hb dX5_line_34 rfl (lv_at hl 1 rfl) ?_
        refine lv_if_ne (tgt := 42) hx hb dX5_line_35 (by decide) (fun c_583 => ?_) (fun c_583 => ?_)
        · have h := iq c_583 h
          refine lv_iconst (v := 1) hx hb dX5_line_42 (by decide) ?_
          refine lv_goto (tgt := 47) hx hb dX5_line_43 (by decide) ?_
          exact w_47  _ _ _ _ _ _ _ _ _ _ _ _  hP hD hS (lv_sub hl [0, 1, 2, 3] rfl) h
        · have h := ip c_583 h
          refine lv_iload_n hx hb dX5_line_38 rfl (lv_at hl 2 rfl) ?_
          refine lv_if_eq (tgt := 46) hx hb dX5_line_39 (by decide) (fun c_584 => ?_) (fun c_584 => ?_)
          · have h := ip c_584 h
            refine lv_iconst (v := 0) hx hb dX5_line_46 (by decide) ?_
            exact w_47  _ _ _ _ _ _ _ _ _ _ _ _  hP hD hS (lv_sub hl [0, 1, 2, 3] rfl) h
          · have h := iq c_584 h
            refine lv_iconst (v := 1) hx hb dX5_line_42 (by decide) ?_
            refine lv_goto (tgt := 47) hx hb dX5_line_43 (by decide) ?_
            exact w_47  _ _ _ _ _ _ _ _ _ _ _ _  hP hD hS (lv_sub hl [0, 1, 2, 3] rfl) h
def fX5_takeAway_b27 (N : Nat) (d_n : Int32) (d_t : Int32) : Nat → Int32 → (Nat → Int32) → (Nat → Int32) → (Nat → Int32) → Option (Int32 × Int32 × (Nat → Int32) × (Nat → Int32) × (Nat → Int32) × Int32)
  | 0, _, _, _, _ => none
  | n + 1, x2, d_a, d_b, d_c => if d_n ≤ x2 then some (d_n, d_n, d_a, d_b, d_c, d_t) else rd d_a 9 (x2 + 1) (fun v_586 => ck 9 x2 (rd d_b 9 (x2 + 1) (fun v_587 => ck 9 x2 (rd d_c 9 (x2 + 1) (fun v_588 => ck 9 x2 (fX5_takeAway_b27 N d_n d_t n (x2 + 1) ((upd d_a (Int32.toNatClampNeg x2) v_586)) ((upd d_b (Int32.toNatClampNeg x2) v_587)) ((upd d_c (Int32.toNatClampNeg x2) v_588))))))))
def fX5_takeAway (N : Nat) (d_n : Int32) (d_a : Nat → Int32) (d_b : Nat → Int32) (d_c : Nat → Int32) (d_t : Int32) (x1 : Int32) : Option (Int32 × Int32 × (Nat → Int32) × (Nat → Int32) × (Nat → Int32) × Int32) := bd (fX5_lineIs N d_n x1) (fun u_589 => bd (fX5_fails N d_t u_589 1) (fun u_591 => if u_591.1 = 0 then fX5_takeAway_b27 N ((d_n - 1)) u_591.2 N x1 d_a d_b d_c else some (0, d_n, d_a, d_b, d_c, u_591.2)))
set_option maxHeartbeats 4000000 in
set_option maxRecDepth 100000 in
theorem kX5_takeAway {l : Launch} {G : wG} (d0 d1 d2 d3 d4 d5 d6 d7 d8 d9 d10 d11 d12 : Nat) (d_n : Int32) (d_a : Nat → Int32) (d_b : Nat → Int32) (d_c : Nat → Int32) (d_k : Int32) (d_x : Nat → Int32) (d_y : Nat → Int32) (d_d : Nat → Int32) (d_r : Nat → Int32) (d_w : Nat → Int32) (d_e : Int32) (d_1 : Nat → Int32) (d_2 : Nat → Int32) (d_o : Nat → Int32) (d_g : Nat → Int32) (d_ra : Int32) (d_rb : Int32) (d_rc : Int32) (d_t : Int32) (x1 : Int32) (N : Nat) (v : Int32 × Int32 × (Nat → Int32) × (Nat → Int32) × (Nat → Int32) × Int32) (h : fX5_takeAway N d_n d_a d_b d_c d_t x1 = some v) : wCi l G yX5_takeAway wsX5_takeAway ({ frames := 2, cells := 0, slots := 0, locals := 43 } : Room) [.ref d0, .int x1] (w_D G d0 d1 d2 d3 d4 d5 d6 d7 d8 d9 d10 d11 d12 d_n d_a d_b d_c d_k d_x d_y d_d d_r d_w d_e d_1 d_2 d_o d_g d_ra d_rb d_rc d_t) (w_D G d0 d1 d2 d3 d4 d5 d6 d7 d8 d9 d10 d11 d12 v.2.1 v.2.2.1 v.2.2.2.1 v.2.2.2.2.1 d_k d_x d_y d_d d_r d_w d_e d_1 d_2 d_o d_g d_ra d_rb d_rc v.2.2.2.2.2) 0 0 v.1 := by
  refine wCi.mk (cc := cX5_takeAway) (maxL := 3) (ty := .int) (by decide) rfl (Nat.le_of_ble_eq_true rfl) ?_
  intro p e s m below meth c A ls hx hb hml hr hlocks hts hown hK hA hP hD hl
  have hx : p.tables.exec = Jvm.exec := hx
  have hown : s.vm.findClass RX5 = some m.cls := hown
  have hinX5 : ∀ w ∈ wsX50, w ∈ wsX5_takeAway := by decide +kernel
  have lk13 := hts (.fieldLink RX5 13 "ChamberwrightModel" "lb" "[I") (by decide +kernel)
  have lk16 := hts (.fieldLink RX5 16 "ChamberwrightModel" "lc" "[I") (by decide +kernel)
  have lk51 := hts (.fieldLink RX5 51 "ChamberwrightModel" "lines" "I") (by decide +kernel)
  have lk7 := hts (.fieldLink RX5 7 "ChamberwrightModel" "la" "[I") (by decide +kernel)
  have hS : va_S A s.heap s.heap [] := va_S.rf
  have hP : va_P G.1 vwCl (w_D G d0 d1 d2 d3 d4 d5 d6 d7 d8 d9 d10 d11 d12 d_n d_a d_b d_c d_k d_x d_y d_d d_r d_w d_e d_1 d_2 d_o d_g d_ra d_rb d_rc d_t) s.heap := hP
  have hD : va_D A (w_D G d0 d1 d2 d3 d4 d5 d6 d7 d8 d9 d10 d11 d12 d_n d_a d_b d_c d_k d_x d_y d_d d_r d_w d_e d_1 d_2 d_o d_g d_ra d_rb d_rc d_t) := hD
  have hl : lv_has ls 3 [(0, .ref d0), (1, .int x1)] := hl
  obtain ⟨args, hargs⟩ : ∃ z : Array Value, z = ([.ref d0, .int x1] : List Value).toArray := ⟨_, rfl⟩
  rw [← hargs]
  rw [← hargs] at hts
  have w_27 : ∀  (d_n : Int32) (d_t : Int32) (_z : Unit), ∀ (n : Nat) (x2 : Int32) (d_a : Nat → Int32) (d_b : Nat → Int32) (d_c : Nat → Int32) (H : Heap) (locs : List Loc) (ls : Array Slot), va_P G.1 vwCl (w_D G d0 d1 d2 d3 d4 d5 d6 d7 d8 d9 d10 d11 d12 d_n d_a d_b d_c d_k d_x d_y d_d d_r d_w d_e d_1 d_2 d_o d_g d_ra d_rb d_rc d_t) H → va_D A (w_D G d0 d1 d2 d3 d4 d5 d6 d7 d8 d9 d10 d11 d12 d_n d_a d_b d_c d_k d_x d_y d_d d_r d_w d_e d_1 d_2 d_o d_g d_ra d_rb d_rc d_t) → va_S A s.heap H locs → lv_has ls 3 [(0, .ref d0), (2, .int x2)] → fX5_takeAway_b27 N d_n d_t n x2 d_a d_b d_c = some v → W p l e ({ frames := 2, cells := 0, slots := 0, locals := 43 } : Room) s m args below meth c H locs 0 0 (wQi G A below args s (w_D G d0 d1 d2 d3 d4 d5 d6 d7 d8 d9 d10 d11 d12 v.2.1 v.2.2.1 v.2.2.2.1 v.2.2.2.2.1 d_k d_x d_y d_d d_r d_w d_e d_1 d_2 d_o d_g d_ra d_rb d_rc v.2.2.2.2.2) 0 0 v.1) (F0 m 27 ls []) := by
    intro d_n d_t _z n
    induction n with
    | zero =>
      intro x2 d_a d_b d_c H locs ls hP hD hS hl h
      rw [fX5_takeAway_b27.eq_1] at h
      cases h
    | succ n ih =>
      intro x2 d_a d_b d_c H locs ls hP hD hS hl h
      rw [fX5_takeAway_b27.eq_2] at h
      refine lv_iload_n hx hb dX5_takeAway_27 rfl (lv_at hl 1 rfl) ?_
      refine lv_aload_n hx hb dX5_takeAway_28 rfl (lv_at hl 0 rfl) ?_
      refine va_get (D := G.1) (ci := 5) (v := .int d_n) (C := RX5) (T := TX5) (N := 19) hx hb hts hinX5 hown hK.1 hP 0 rfl rfl 0 (by decide) lk51 (fun _ h9 => h9) rfl dX5_takeAway_29 ?_
      refine lv_icmp_ge (tgt := 83) hx hb dX5_takeAway_32 (by decide) (fun c_585 => ?_) (fun c_585 => ?_)
      · have h := ip c_585 h
        refine lv_aload_n hx hb dX5_takeAway_83 rfl (lv_at hl 0 rfl) ?_
        refine va_get (D := G.1) (ci := 5) (v := .int d_n) (C := RX5) (T := TX5) (N := 19) hx hb hts hinX5 hown hK.1 hP 0 rfl rfl 0 (by decide) lk51 (fun _ h9 => h9) rfl dX5_takeAway_84 ?_
        obtain rfl := Option.some.inj h
        exact wri hx hb hr hlocks hP hD hS (Nat.le_of_ble_eq_true rfl) (Nat.le_of_ble_eq_true rfl) rfl dX5_takeAway_87
      · have h := iq c_585 h
        refine lv_aload_n hx hb dX5_takeAway_35 rfl (lv_at hl 0 rfl) ?_
        refine va_get (D := G.1) (ci := 5) (v := .ref d1) (C := RX5) (T := TX5) (N := 19) hx hb hts hinX5 hown hK.1 hP 0 rfl rfl 1 (by decide) lk7 (fun _ h9 => h9) rfl dX5_takeAway_36 ?_
        refine lv_iload_n hx hb dX5_takeAway_39 rfl (lv_at hl 1 rfl) ?_
        refine lv_aload_n hx hb dX5_takeAway_40 rfl (lv_at hl 0 rfl) ?_
        refine va_get (D := G.1) (ci := 5) (v := .ref d1) (C := RX5) (T := TX5) (N := 19) hx hb hts hinX5 hown hK.1 hP 0 rfl rfl 1 (by decide) lk7 (fun _ h9 => h9) rfl dX5_takeAway_41 ?_
        refine lv_iload_n hx hb dX5_takeAway_44 rfl (lv_at hl 1 rfl) ?_
        refine lv_iconst (v := 1) hx hb dX5_takeAway_45 (by decide) ?_
        refine lv_iadd hx hb dX5_takeAway_46 ?_
        refine wiald h hx hb hK hP 1 rfl dX5_takeAway_47 (fun v_586 h => ?_)
        refine wiast h hx hb hK hP hD hS 1 rfl dX5_takeAway_48 (fun H locs hP hD hS h => ?_)
        have hP : va_P G.1 vwCl (w_D G d0 d1 d2 d3 d4 d5 d6 d7 d8 d9 d10 d11 d12 d_n ((upd d_a (Int32.toNatClampNeg x2) v_586)) d_b d_c d_k d_x d_y d_d d_r d_w d_e d_1 d_2 d_o d_g d_ra d_rb d_rc d_t) H := hP
        have hD : va_D A (w_D G d0 d1 d2 d3 d4 d5 d6 d7 d8 d9 d10 d11 d12 d_n ((upd d_a (Int32.toNatClampNeg x2) v_586)) d_b d_c d_k d_x d_y d_d d_r d_w d_e d_1 d_2 d_o d_g d_ra d_rb d_rc d_t) := hD
        refine lv_aload_n hx hb dX5_takeAway_49 rfl (lv_at hl 0 rfl) ?_
        refine va_get (D := G.1) (ci := 5) (v := .ref d2) (C := RX5) (T := TX5) (N := 19) hx hb hts hinX5 hown hK.1 hP 0 rfl rfl 2 (by decide) lk13 (fun _ h9 => h9) rfl dX5_takeAway_50 ?_
        refine lv_iload_n hx hb dX5_takeAway_53 rfl (lv_at hl 1 rfl) ?_
        refine lv_aload_n hx hb dX5_takeAway_54 rfl (lv_at hl 0 rfl) ?_
        refine va_get (D := G.1) (ci := 5) (v := .ref d2) (C := RX5) (T := TX5) (N := 19) hx hb hts hinX5 hown hK.1 hP 0 rfl rfl 2 (by decide) lk13 (fun _ h9 => h9) rfl dX5_takeAway_55 ?_
        refine lv_iload_n hx hb dX5_takeAway_58 rfl (lv_at hl 1 rfl) ?_
        refine lv_iconst (v := 1) hx hb dX5_takeAway_59 (by decide) ?_
        refine lv_iadd hx hb dX5_takeAway_60 ?_
        refine wiald h hx hb hK hP 2 rfl dX5_takeAway_61 (fun v_587 h => ?_)
        refine wiast h hx hb hK hP hD hS 2 rfl dX5_takeAway_62 (fun H locs hP hD hS h => ?_)
        have hP : va_P G.1 vwCl (w_D G d0 d1 d2 d3 d4 d5 d6 d7 d8 d9 d10 d11 d12 d_n ((upd d_a (Int32.toNatClampNeg x2) v_586)) ((upd d_b (Int32.toNatClampNeg x2) v_587)) d_c d_k d_x d_y d_d d_r d_w d_e d_1 d_2 d_o d_g d_ra d_rb d_rc d_t) H := hP
        have hD : va_D A (w_D G d0 d1 d2 d3 d4 d5 d6 d7 d8 d9 d10 d11 d12 d_n ((upd d_a (Int32.toNatClampNeg x2) v_586)) ((upd d_b (Int32.toNatClampNeg x2) v_587)) d_c d_k d_x d_y d_d d_r d_w d_e d_1 d_2 d_o d_g d_ra d_rb d_rc d_t) := hD
        refine lv_aload_n hx hb dX5_takeAway_63 rfl (lv_at hl 0 rfl) ?_
        refine va_get (D := G.1) (ci := 5) (v := .ref d3) (C := RX5) (T := TX5) (N := 19) hx hb hts hinX5 hown hK.1 hP 0 rfl rfl 3 (by decide) lk16 (fun _ h9 => h9) rfl dX5_takeAway_64 ?_
        refine lv_iload_n hx hb dX5_takeAway_67 rfl (lv_at hl 1 rfl) ?_
        refine lv_aload_n hx hb dX5_takeAway_68 rfl (lv_at hl 0 rfl) ?_
        refine va_get (D := G.1) (ci := 5) (v := .ref d3) (C := RX5) (T := TX5) (N := 19) hx hb hts hinX5 hown hK.1 hP 0 rfl rfl 3 (by decide) lk16 (fun _ h9 => h9) rfl dX5_takeAway_69 ?_
        refine lv_iload_n hx hb dX5_takeAway_72 rfl (lv_at hl 1 rfl) ?_
        refine lv_iconst (v := 1) hx hb dX5_takeAway_73 (by decide) ?_
        refine lv_iadd hx hb dX5_takeAway_74 ?_
        refine wiald h hx hb hK hP 3 rfl dX5_takeAway_75 (fun v_588 h => ?_)
        refine wiast h hx hb hK hP hD hS 3 rfl dX5_takeAway_76 (fun H locs hP hD hS h => ?_)
        have hP : va_P G.1 vwCl (w_D G d0 d1 d2 d3 d4 d5 d6 d7 d8 d9 d10 d11 d12 d_n ((upd d_a (Int32.toNatClampNeg x2) v_586)) ((upd d_b (Int32.toNatClampNeg x2) v_587)) ((upd d_c (Int32.toNatClampNeg x2) v_588)) d_k d_x d_y d_d d_r d_w d_e d_1 d_2 d_o d_g d_ra d_rb d_rc d_t) H := hP
        have hD : va_D A (w_D G d0 d1 d2 d3 d4 d5 d6 d7 d8 d9 d10 d11 d12 d_n ((upd d_a (Int32.toNatClampNeg x2) v_586)) ((upd d_b (Int32.toNatClampNeg x2) v_587)) ((upd d_c (Int32.toNatClampNeg x2) v_588)) d_k d_x d_y d_d d_r d_w d_e d_1 d_2 d_o d_g d_ra d_rb d_rc d_t) := hD
        refine lv_iinc (v := (x2 + 1)) (lv' := [(2, .int (x2 + 1)), (0, .ref d0)]) hx hb dX5_takeAway_77 hl (k := 1) rfl rfl (by decide) rfl (fun ls hl => ?_)
        refine lv_goto (tgt := 27) hx hb dX5_takeAway_80 (by decide) ?_
        exact ih _ _ _ _ _ _ _ hP hD hS (lv_sub hl [1, 0] rfl) h
  rw [fX5_takeAway.eq_1] at h
  refine lv_aload_n hx hb dX5_takeAway_0 rfl (lv_at hl 0 rfl) ?_
  refine lv_aload_n hx hb dX5_takeAway_1 rfl (lv_at hl 0 rfl) ?_
  refine lv_iload_n hx hb dX5_takeAway_2 rfl (lv_at hl 1 rfl) ?_
  obtain ⟨u_589, hc_590, h⟩ := bd_inv h
  refine wafter_i (wr := []) (w2 := (w_D G d0 d1 d2 d3 d4 d5 d6 d7 d8 d9 d10 d11 d12 d_n d_a d_b d_c d_k d_x d_y d_d d_r d_w d_e d_1 d_2 d_o d_g d_ra d_rb d_rc d_t)) (va_runV (As := [.int x1]) (rest := [.ref d0]) ⟨hx, hb, hml, hown, hts⟩ (kX5_lineIs (l := l) (G := G) d0 d1 d2 d3 d4 d5 d6 d7 d8 d9 d10 d11 d12 d_n d_a d_b d_c d_k d_x d_y d_d d_r d_w d_e d_1 d_2 d_o d_g d_ra d_rb d_rc d_t x1 N u_589 hc_590 _) (cwV 1 hts gX5_takeAway_X5_lineIs rfl rfl rfl (by decide +kernel) ⟨Nat.le_of_ble_eq_true rfl, Nat.le_of_ble_eq_true rfl⟩) (wPreV hP hD hK [0, 1, 2, 3, 4, 5, 6, 7, 8, 9, 10, 11, 12] rfl rfl (ci := 5) (qb := 0) rfl rfl rfl) rfl rfl hl.1 rfl (lv_room (Nat.le_of_ble_eq_true rfl)) dX5_takeAway_3 ⟨Nat.zero_le _, Nat.zero_le _⟩) hP hD hS hA [0, 1, 2, 3, 4, 5, 6, 7, 8, 9, 10, 11, 12] [] [0, 1, 2, 3, 4, 5, 6, 7, 8, 9, 10, 11, 12] rfl rfl rfl (by decide) rfl rfl (fun H locs hP hD hS => ?_)
  refine lv_iconst (v := 1) hx hb dX5_takeAway_6 (by decide) ?_
  obtain ⟨u_591, hc_592, h⟩ := bd_inv h
  refine wafter_i (wr := []) (w2 := (w_D G d0 d1 d2 d3 d4 d5 d6 d7 d8 d9 d10 d11 d12 d_n d_a d_b d_c d_k d_x d_y d_d d_r d_w d_e d_1 d_2 d_o d_g d_ra d_rb d_rc u_591.2)) (va_runV (As := [.int u_589, .int 1]) (rest := []) ⟨hx, hb, hml, hown, hts⟩ (kX5_fails (l := l) (G := G) d0 d1 d2 d3 d4 d5 d6 d7 d8 d9 d10 d11 d12 d_n d_a d_b d_c d_k d_x d_y d_d d_r d_w d_e d_1 d_2 d_o d_g d_ra d_rb d_rc d_t u_589 1 N u_591 hc_592 _) (cwV 2 hts gX5_takeAway_X5_fails rfl rfl rfl (by decide +kernel) ⟨Nat.le_of_ble_eq_true rfl, Nat.le_of_ble_eq_true rfl⟩) (wPreV hP hD hK [0, 1, 2, 3, 4, 5, 6, 7, 8, 9, 10, 11, 12] rfl rfl (ci := 5) (qb := 0) rfl rfl rfl) rfl rfl hl.1 rfl (lv_room (Nat.le_of_ble_eq_true rfl)) dX5_takeAway_7 ⟨Nat.zero_le _, Nat.zero_le _⟩) hP hD hS hA [0, 1, 2, 3, 4, 5, 6, 7, 8, 9, 10, 11, 12] [] [0, 1, 2, 3, 4, 5, 6, 7, 8, 9, 10, 11, 12] rfl rfl rfl (by decide) rfl rfl (fun H locs hP hD hS => ?_)
  refine lv_if_eq (tgt := 15) hx hb dX5_takeAway_10 (by decide) (fun c_593 => ?_) (fun c_593 => ?_)
  · have h := ip c_593 h
    refine lv_aload_n hx hb dX5_takeAway_15 rfl (lv_at hl 0 rfl) ?_
    refine lv_dup hx hb dX5_takeAway_16 rfl ?_
    refine va_get (D := G.1) (ci := 5) (v := .int d_n) (C := RX5) (T := TX5) (N := 19) hx hb hts hinX5 hown hK.1 hP 0 rfl rfl 0 (by decide) lk51 (fun _ h9 => h9) rfl dX5_takeAway_17 ?_
    refine lv_iconst (v := 1) hx hb dX5_takeAway_20 (by decide) ?_
    refine lv_isub hx hb dX5_takeAway_21 ?_
    refine va_put (D := G.1) (ci := 5) (v := .int (d_n - 1)) (ty := .int) (C := RX5) (T := TX5) (N := 19) hx hb hts hinX5 tyX5 tyX5_ok nmX5 hown hK.1 hP hD hS 0 rfl rfl 0 (by decide) lk51 (fun _ h9 => h9) rfl (by decide +kernel) rfl rfl (Nat.le_of_ble_eq_true rfl) dX5_takeAway_22 (fun H locs hP hD hS => ?_)
    have hP : va_P G.1 vwCl (w_D G d0 d1 d2 d3 d4 d5 d6 d7 d8 d9 d10 d11 d12 ((d_n - 1)) d_a d_b d_c d_k d_x d_y d_d d_r d_w d_e d_1 d_2 d_o d_g d_ra d_rb d_rc u_591.2) H := hP
    have hD : va_D A (w_D G d0 d1 d2 d3 d4 d5 d6 d7 d8 d9 d10 d11 d12 ((d_n - 1)) d_a d_b d_c d_k d_x d_y d_d d_r d_w d_e d_1 d_2 d_o d_g d_ra d_rb d_rc u_591.2) := hD
    refine lv_iload_n hx hb dX5_takeAway_25 rfl (lv_at hl 1 rfl) ?_
    refine lv_istore_n (lv' := [(2, .int x1), (0, .ref d0), (1, .int x1)]) hx hb dX5_takeAway_26 rfl hl (by decide) rfl (fun ls hl => ?_)
    exact w_27   _ _ ()  N _ _ _ _ _ _ _ hP hD hS (lv_sub hl [1, 0] rfl) h
  · have h := iq c_593 h
    refine lv_iconst (v := 0) hx hb dX5_takeAway_13 (by decide) ?_
    obtain rfl := Option.some.inj h
    exact wri hx hb hr hlocks hP hD hS (Nat.le_of_ble_eq_true rfl) (Nat.le_of_ble_eq_true rfl) rfl dX5_takeAway_14
def fX5_common_b22 (N : Nat) : Nat → Int32 → Int32 → Option (Int32)
  | 0, _, _ => none
  | n + 1, x2, x3 => if x3 = 0 then some x2 else nz x3 (fX5_common_b22 N n x3 (x2 - x2 / x3 * x3))
def fX5_common_b10 (N : Nat) (x1 : Int32) (s0 : Int32) : Option (Int32) := if 0 ≤ x1 then fX5_common_b22 N N s0 x1 else fX5_common_b22 N N s0 (-x1)
def fX5_common (N : Nat) (x0 : Int32) (x1 : Int32) : Option (Int32) := if 0 ≤ x0 then fX5_common_b10 N x1 x0 else fX5_common_b10 N x1 (-x0)
set_option maxHeartbeats 4000000 in
set_option maxRecDepth 100000 in
theorem kX5_common {l : Launch} {G : wG} (x0 : Int32) (x1 : Int32) (N : Nat) (v : Int32) (h : fX5_common N x0 x1 = some v) : wCi l G yX5_common wsX5_common ({ frames := 0, cells := 0, slots := 0, locals := 0 } : Room) [.int x0, .int x1] [] [] 0 0 v := by
  refine wCi.mk (cc := cX5_common) (maxL := 5) (ty := .int) (by decide) rfl (Nat.le_of_ble_eq_true rfl) ?_
  intro p e s m below meth c A ls hx hb hml hr hlocks hts hown hK hA hP hD hl
  have hx : p.tables.exec = Jvm.exec := hx
  have hown : s.vm.findClass RX5 = some m.cls := hown
  have hS : va_S A s.heap s.heap [] := va_S.rf
  have hP : va_P G.1 vwCl [] s.heap := hP
  have hD : va_D A [] := hD
  have hl : lv_has ls 5 [(0, .int x0), (1, .int x1)] := hl
  obtain ⟨args, hargs⟩ : ∃ z : Array Value, z = ([.int x0, .int x1] : List Value).toArray := ⟨_, rfl⟩
  rw [← hargs]
  rw [← hargs] at hts
  have w_22 : ∀   (_z : Unit), ∀ (n : Nat) (x2 : Int32) (x3 : Int32)  (H : Heap) (locs : List Loc) (ls : Array Slot), va_P G.1 vwCl [] H → va_D A [] → va_S A s.heap H locs → lv_has ls 5 [(2, .int x2), (3, .int x3)] → fX5_common_b22 N n x2 x3 = some v → W p l e ({ frames := 0, cells := 0, slots := 0, locals := 0 } : Room) s m args below meth c H locs 0 0 (wQi G A below args s [] 0 0 v) (F0 m 22 ls []) := by
    intro _z n
    induction n with
    | zero =>
      intro x2 x3 H locs ls hP hD hS hl h
      rw [fX5_common_b22.eq_1] at h
      cases h
    | succ n ih =>
      intro x2 x3 H locs ls hP hD hS hl h
      rw [fX5_common_b22.eq_2] at h
      refine lv_iload_n hx hb dX5_common_22 rfl (lv_at hl 1 rfl) ?_
      refine lv_if_eq (tgt := 39) hx hb dX5_common_23 (by decide) (fun c_594 => ?_) (fun c_594 => ?_)
      · have h := ip c_594 h
        refine lv_iload_n hx hb dX5_common_39 rfl (lv_at hl 0 rfl) ?_
        obtain rfl := Option.some.inj h
        exact wri hx hb hr hlocks hP hD hS (Nat.le_of_ble_eq_true rfl) (Nat.le_of_ble_eq_true rfl) rfl dX5_common_40
      · have h := iq c_594 h
        refine lv_iload_n hx hb dX5_common_26 rfl (lv_at hl 0 rfl) ?_
        refine lv_iload_n hx hb dX5_common_27 rfl (lv_at hl 1 rfl) ?_
        obtain ⟨hz, h⟩ := nz_inv h
        refine lv_irem hx hb dX5_common_28 hz ?_
        refine lv_istore (lv' := [(4, .int (x2 - x2 / x3 * x3)), (2, .int x2), (3, .int x3)]) hx hb dX5_common_29 hl (by decide) rfl (fun ls hl => ?_)
        refine lv_iload_n hx hb dX5_common_31 rfl (lv_at hl 2 rfl) ?_
        refine lv_istore_n (lv' := [(2, .int x3), (4, .int (x2 - x2 / x3 * x3)), (3, .int x3)]) hx hb dX5_common_32 rfl hl (by decide) rfl (fun ls hl => ?_)
        refine lv_iload hx hb dX5_common_33 (lv_at hl 1 rfl) ?_
        refine lv_istore_n (lv' := [(3, .int (x2 - x2 / x3 * x3)), (2, .int x3), (4, .int (x2 - x2 / x3 * x3))]) hx hb dX5_common_35 rfl hl (by decide) rfl (fun ls hl => ?_)
        refine lv_goto (tgt := 22) hx hb dX5_common_36 (by decide) ?_
        exact ih _ _ _ _ _ hP hD hS (lv_sub hl [1, 0] rfl) h
  have w_10 : ∀ (x1 : Int32)  (s0 : Int32) (H : Heap) (locs : List Loc) (ls : Array Slot), va_P G.1 vwCl [] H → va_D A [] → va_S A s.heap H locs → lv_has ls 5 [(1, .int x1)] → fX5_common_b10 N x1 s0 = some v → W p l e ({ frames := 0, cells := 0, slots := 0, locals := 0 } : Room) s m args below meth c H locs 0 0 (wQi G A below args s [] 0 0 v) (F0 m 10 ls [.int s0]) := by
    intro x1 s0 H locs ls hP hD hS hl h
    rw [fX5_common_b10.eq_1] at h
    refine lv_istore_n (lv' := [(2, .int s0), (1, .int x1)]) hx hb dX5_common_10 rfl hl (by decide) rfl (fun ls hl => ?_)
    refine lv_iload_n hx hb dX5_common_11 rfl (lv_at hl 1 rfl) ?_
    refine lv_if_ge (tgt := 20) hx hb dX5_common_12 (by decide) (fun c_595 => ?_) (fun c_595 => ?_)
    · have h := ip c_595 h
      refine lv_iload_n hx hb dX5_common_20 rfl (lv_at hl 1 rfl) ?_
      refine lv_istore_n (lv' := [(3, .int x1), (2, .int s0), (1, .int x1)]) hx hb dX5_common_21 rfl hl (by decide) rfl (fun ls hl => ?_)
      exact w_22    ()  N _ _  _ _ _ hP hD hS (lv_sub hl [1, 0] rfl) h
    · have h := iq c_595 h
      refine lv_iload_n hx hb dX5_common_15 rfl (lv_at hl 1 rfl) ?_
      refine lv_ineg hx hb dX5_common_16 ?_
      refine lv_goto (tgt := 21) hx hb dX5_common_17 (by decide) ?_
      refine lv_istore_n (lv' := [(3, .int (-x1)), (2, .int s0), (1, .int x1)]) hx hb dX5_common_21 rfl hl (by decide) rfl (fun ls hl => ?_)
      exact w_22    ()  N _ _  _ _ _ hP hD hS (lv_sub hl [1, 0] rfl) h
  rw [fX5_common.eq_1] at h
  refine lv_iload_n hx hb dX5_common_0 rfl (lv_at hl 0 rfl) ?_
  refine lv_if_ge (tgt := 9) hx hb dX5_common_1 (by decide) (fun c_596 => ?_) (fun c_596 => ?_)
  · have h := ip c_596 h
    refine lv_iload_n hx hb dX5_common_9 rfl (lv_at hl 0 rfl) ?_
    exact w_10  _  _ _ _ _  hP hD hS (lv_sub hl [1] rfl) h
  · have h := iq c_596 h
    refine lv_iload_n hx hb dX5_common_4 rfl (lv_at hl 0 rfl) ?_
    refine lv_ineg hx hb dX5_common_5 ?_
    refine lv_goto (tgt := 10) hx hb dX5_common_6 (by decide) ?_
    exact w_10  _  _ _ _ _  hP hD hS (lv_sub hl [1] rfl) h
def fX5_side (N : Nat) (d_a : Nat → Int32) (d_b : Nat → Int32) (d_c : Nat → Int32) (d_x : Nat → Int32) (d_y : Nat → Int32) (d_d : Nat → Int32) (x1 : Int32) (x2 : Int32) : Option (Int32) := rd d_a 9 x1 (fun v_597 => rd d_x 36 x2 (fun v_598 => rd d_b 9 x1 (fun v_599 => rd d_y 36 x2 (fun v_600 => rd d_c 9 x1 (fun v_601 => rd d_d 36 x2 (fun v_602 => bd (fX5_sign N (((v_597 * v_598) + (v_599 * v_600)) - (v_601 * v_602))) (fun u_603 => some u_603)))))))
set_option maxHeartbeats 4000000 in
set_option maxRecDepth 100000 in
theorem kX5_side {l : Launch} {G : wG} (d0 d1 d2 d3 d4 d5 d6 d7 d8 d9 d10 d11 d12 : Nat) (d_n : Int32) (d_a : Nat → Int32) (d_b : Nat → Int32) (d_c : Nat → Int32) (d_k : Int32) (d_x : Nat → Int32) (d_y : Nat → Int32) (d_d : Nat → Int32) (d_r : Nat → Int32) (d_w : Nat → Int32) (d_e : Int32) (d_1 : Nat → Int32) (d_2 : Nat → Int32) (d_o : Nat → Int32) (d_g : Nat → Int32) (d_ra : Int32) (d_rb : Int32) (d_rc : Int32) (d_t : Int32) (x1 : Int32) (x2 : Int32) (N : Nat) (v : Int32) (h : fX5_side N d_a d_b d_c d_x d_y d_d x1 x2 = some v) : wCi l G yX5_side wsX5_side ({ frames := 1, cells := 0, slots := 0, locals := 20 } : Room) [.ref d0, .int x1, .int x2] (w_D G d0 d1 d2 d3 d4 d5 d6 d7 d8 d9 d10 d11 d12 d_n d_a d_b d_c d_k d_x d_y d_d d_r d_w d_e d_1 d_2 d_o d_g d_ra d_rb d_rc d_t) (w_D G d0 d1 d2 d3 d4 d5 d6 d7 d8 d9 d10 d11 d12 d_n d_a d_b d_c d_k d_x d_y d_d d_r d_w d_e d_1 d_2 d_o d_g d_ra d_rb d_rc d_t) 0 0 v := by
  refine wCi.mk (cc := cX5_side) (maxL := 3) (ty := .int) (by decide) rfl (Nat.le_of_ble_eq_true rfl) ?_
  intro p e s m below meth c A ls hx hb hml hr hlocks hts hown hK hA hP hD hl
  have hx : p.tables.exec = Jvm.exec := hx
  have hown : s.vm.findClass RX5 = some m.cls := hown
  have hinX5 : ∀ w ∈ wsX50, w ∈ wsX5_side := by decide +kernel
  have lk13 := hts (.fieldLink RX5 13 "ChamberwrightModel" "lb" "[I") (by decide +kernel)
  have lk16 := hts (.fieldLink RX5 16 "ChamberwrightModel" "lc" "[I") (by decide +kernel)
  have lk19 := hts (.fieldLink RX5 19 "ChamberwrightModel" "mx" "[I") (by decide +kernel)
  have lk22 := hts (.fieldLink RX5 22 "ChamberwrightModel" "my" "[I") (by decide +kernel)
  have lk25 := hts (.fieldLink RX5 25 "ChamberwrightModel" "md" "[I") (by decide +kernel)
  have lk7 := hts (.fieldLink RX5 7 "ChamberwrightModel" "la" "[I") (by decide +kernel)
  have hS : va_S A s.heap s.heap [] := va_S.rf
  have hP : va_P G.1 vwCl (w_D G d0 d1 d2 d3 d4 d5 d6 d7 d8 d9 d10 d11 d12 d_n d_a d_b d_c d_k d_x d_y d_d d_r d_w d_e d_1 d_2 d_o d_g d_ra d_rb d_rc d_t) s.heap := hP
  have hD : va_D A (w_D G d0 d1 d2 d3 d4 d5 d6 d7 d8 d9 d10 d11 d12 d_n d_a d_b d_c d_k d_x d_y d_d d_r d_w d_e d_1 d_2 d_o d_g d_ra d_rb d_rc d_t) := hD
  have hl : lv_has ls 3 [(0, .ref d0), (1, .int x1), (2, .int x2)] := hl
  obtain ⟨args, hargs⟩ : ∃ z : Array Value, z = ([.ref d0, .int x1, .int x2] : List Value).toArray := ⟨_, rfl⟩
  rw [← hargs]
  rw [← hargs] at hts
  rw [fX5_side.eq_1] at h
  refine lv_aload_n hx hb dX5_side_0 rfl (lv_at hl 0 rfl) ?_
  refine va_get (D := G.1) (ci := 5) (v := .ref d1) (C := RX5) (T := TX5) (N := 19) hx hb hts hinX5 hown hK.1 hP 0 rfl rfl 1 (by decide) lk7 (fun _ h9 => h9) rfl dX5_side_1 ?_
  refine lv_iload_n hx hb dX5_side_4 rfl (lv_at hl 1 rfl) ?_
  refine wiald h hx hb hK hP 1 rfl dX5_side_5 (fun v_597 h => ?_)
  refine lv_aload_n hx hb dX5_side_6 rfl (lv_at hl 0 rfl) ?_
  refine va_get (D := G.1) (ci := 5) (v := .ref d4) (C := RX5) (T := TX5) (N := 19) hx hb hts hinX5 hown hK.1 hP 0 rfl rfl 5 (by decide) lk19 (fun _ h9 => h9) rfl dX5_side_7 ?_
  refine lv_iload_n hx hb dX5_side_10 rfl (lv_at hl 2 rfl) ?_
  refine wiald h hx hb hK hP 4 rfl dX5_side_11 (fun v_598 h => ?_)
  refine lv_imul hx hb dX5_side_12 ?_
  refine lv_aload_n hx hb dX5_side_13 rfl (lv_at hl 0 rfl) ?_
  refine va_get (D := G.1) (ci := 5) (v := .ref d2) (C := RX5) (T := TX5) (N := 19) hx hb hts hinX5 hown hK.1 hP 0 rfl rfl 2 (by decide) lk13 (fun _ h9 => h9) rfl dX5_side_14 ?_
  refine lv_iload_n hx hb dX5_side_17 rfl (lv_at hl 1 rfl) ?_
  refine wiald h hx hb hK hP 2 rfl dX5_side_18 (fun v_599 h => ?_)
  refine lv_aload_n hx hb dX5_side_19 rfl (lv_at hl 0 rfl) ?_
  refine va_get (D := G.1) (ci := 5) (v := .ref d5) (C := RX5) (T := TX5) (N := 19) hx hb hts hinX5 hown hK.1 hP 0 rfl rfl 6 (by decide) lk22 (fun _ h9 => h9) rfl dX5_side_20 ?_
  refine lv_iload_n hx hb dX5_side_23 rfl (lv_at hl 2 rfl) ?_
  refine wiald h hx hb hK hP 5 rfl dX5_side_24 (fun v_600 h => ?_)
  refine lv_imul hx hb dX5_side_25 ?_
  refine lv_iadd hx hb dX5_side_26 ?_
  refine lv_aload_n hx hb dX5_side_27 rfl (lv_at hl 0 rfl) ?_
  refine va_get (D := G.1) (ci := 5) (v := .ref d3) (C := RX5) (T := TX5) (N := 19) hx hb hts hinX5 hown hK.1 hP 0 rfl rfl 3 (by decide) lk16 (fun _ h9 => h9) rfl dX5_side_28 ?_
  refine lv_iload_n hx hb dX5_side_31 rfl (lv_at hl 1 rfl) ?_
  refine wiald h hx hb hK hP 3 rfl dX5_side_32 (fun v_601 h => ?_)
  refine lv_aload_n hx hb dX5_side_33 rfl (lv_at hl 0 rfl) ?_
  refine va_get (D := G.1) (ci := 5) (v := .ref d6) (C := RX5) (T := TX5) (N := 19) hx hb hts hinX5 hown hK.1 hP 0 rfl rfl 7 (by decide) lk25 (fun _ h9 => h9) rfl dX5_side_34 ?_
  refine lv_iload_n hx hb dX5_side_37 rfl (lv_at hl 2 rfl) ?_
  refine wiald h hx hb hK hP 6 rfl dX5_side_38 (fun v_602 h => ?_)
  refine lv_imul hx hb dX5_side_39 ?_
  refine lv_isub hx hb dX5_side_40 ?_
  obtain ⟨u_603, hc_604, h⟩ := bd_inv h
  refine wafter_i (wr := (w_D G d0 d1 d2 d3 d4 d5 d6 d7 d8 d9 d10 d11 d12 d_n d_a d_b d_c d_k d_x d_y d_d d_r d_w d_e d_1 d_2 d_o d_g d_ra d_rb d_rc d_t)) (w2 := (w_D G d0 d1 d2 d3 d4 d5 d6 d7 d8 d9 d10 d11 d12 d_n d_a d_b d_c d_k d_x d_y d_d d_r d_w d_e d_1 d_2 d_o d_g d_ra d_rb d_rc d_t)) (va_runS (As := [.int (((v_597 * v_598) + (v_599 * v_600)) - (v_601 * v_602))]) (rest := []) ⟨hx, hb, hml, hown, hts⟩ (kX5_sign (l := l) (G := G)   (((v_597 * v_598) + (v_599 * v_600)) - (v_601 * v_602)) N u_603 hc_604 _) (va_cwS 1 hts gX5_side_X5_sign rfl rfl rfl (by decide +kernel) ⟨Nat.le_of_ble_eq_true rfl, Nat.le_of_ble_eq_true rfl⟩) (wPreS hP hD hK [] rfl rfl) rfl rfl hl.1 rfl (lv_room (Nat.le_of_ble_eq_true rfl)) dX5_side_41 ⟨Nat.zero_le _, Nat.zero_le _⟩) hP hD hS hA [] [0, 1, 2, 3, 4, 5, 6, 7, 8, 9, 10, 11, 12] [0, 1, 2, 3, 4, 5, 6, 7, 8, 9, 10, 11, 12] rfl rfl rfl (by decide) rfl rfl (fun H locs hP hD hS => ?_)
  obtain rfl := Option.some.inj h
  exact wri hx hb hr hlocks hP hD hS (Nat.le_of_ble_eq_true rfl) (Nat.le_of_ble_eq_true rfl) rfl dX5_side_44
def fX5_keep_b88 (N : Nat) (x8 : Int32) (x4 : Int32) (x6 : Int32) (s0 : Int32) (s1 : Int32) (k_9 : Int32 → Int32 → Int32 → Option (Int32 × (Nat → Int32) × (Nat → Int32) × (Nat → Int32))) : Option (Int32 × (Nat → Int32) × (Nat → Int32) × (Nat → Int32)) := if 0 ≤ x8 then k_9 x4 (s0 &&& s1) (x6 + 1) else k_9 (x6 + 1) (s0 &&& s1) (x6 + 1)
def fX5_keep_b74 (N : Nat) (x4 : Int32) (x5 : Int32) (x6 : Int32) (s0 : Int32) (k_9 : Int32 → Int32 → Int32 → Option (Int32 × (Nat → Int32) × (Nat → Int32) × (Nat → Int32))) : Option (Int32 × (Nat → Int32) × (Nat → Int32) × (Nat → Int32)) := if s0 = 0 then fX5_keep_b88 N s0 x4 x6 x5 0 (fun (x4_607 : Int32) (x5_608 : Int32) (x6_609 : Int32) => k_9 x4_607 x5_608 x6_609) else fX5_keep_b88 N s0 x4 x6 x5 1 (fun (x4_610 : Int32) (x5_611 : Int32) (x6_612 : Int32) => k_9 x4_610 x5_611 x6_612)
def fX5_keep_b9 (N : Nat) (d_k : Int32) (d_x : Nat → Int32) (d_y : Nat → Int32) (d_d : Nat → Int32) (x1 : Int32) (x2 : Int32) (x3 : Int32) (k_113 : Int32 → Int32 → Option (Int32 × (Nat → Int32) × (Nat → Int32) × (Nat → Int32))) : Nat → Int32 → Int32 → Int32 → Option (Int32 × (Nat → Int32) × (Nat → Int32) × (Nat → Int32))
  | 0, _, _, _ => none
  | n + 1, x4, x5, x6 => if d_k ≤ x6 then k_113 x4 x5 else rd d_x 36 x6 (fun v_614 => rd d_d 36 x6 (fun v_615 => bd (fX5_sign N ((v_614 * x3) - (x1 * v_615))) (fun u_616 => if u_616 = 0 then rd d_y 36 x6 (fun v_619 => rd d_d 36 x6 (fun v_620 => bd (fX5_sign N ((v_619 * x3) - (x2 * v_620))) (fun u_621 => fX5_keep_b74 N x4 x5 x6 u_621 (fun (x4_623 : Int32) (x5_624 : Int32) (x6_625 : Int32) => fX5_keep_b9 N d_k d_x d_y d_d x1 x2 x3 k_113 n x4_623 x5_624 x6_625)))) else fX5_keep_b74 N x4 x5 x6 u_616 (fun (x4_626 : Int32) (x5_627 : Int32) (x6_628 : Int32) => fX5_keep_b9 N d_k d_x d_y d_d x1 x2 x3 k_113 n x4_626 x5_627 x6_628))))
def fX5_keep_b124 (N : Nat) (x4 : Int32) (k_185 : (Nat → Int32) → (Nat → Int32) → (Nat → Int32) → Option (Int32 × (Nat → Int32) × (Nat → Int32) × (Nat → Int32))) : Nat → Int32 → (Nat → Int32) → (Nat → Int32) → (Nat → Int32) → Option (Int32 × (Nat → Int32) × (Nat → Int32) × (Nat → Int32))
  | 0, _, _, _, _ => none
  | n + 1, x6, d_x, d_y, d_d => if x6 ≤ x4 then k_185 d_x d_y d_d else rd d_x 36 (x6 - 1) (fun v_630 => ck 36 x6 (rd d_y 36 (x6 - 1) (fun v_631 => ck 36 x6 (rd d_d 36 (x6 - 1) (fun v_632 => ck 36 x6 (fX5_keep_b124 N x4 k_185 n (x6 + (-1)) ((upd d_x (Int32.toNatClampNeg x6) v_630)) ((upd d_y (Int32.toNatClampNeg x6) v_631)) ((upd d_d (Int32.toNatClampNeg x6) v_632))))))))
def fX5_keep (N : Nat) (d_k : Int32) (d_x : Nat → Int32) (d_y : Nat → Int32) (d_d : Nat → Int32) (x1 : Int32) (x2 : Int32) (x3 : Int32) : Option (Int32 × (Nat → Int32) × (Nat → Int32) × (Nat → Int32)) := fX5_keep_b9 N d_k d_x d_y d_d x1 x2 x3 (fun (x4_633 : Int32) (x5_634 : Int32) => if x5_634 = 0 then some (d_k, d_x, d_y, d_d) else fX5_keep_b124 N x4_633 (fun (d_x_636 : Nat → Int32) (d_y_637 : Nat → Int32) (d_d_638 : Nat → Int32) => ck 36 x4_633 (ck 36 x4_633 (ck 36 x4_633 (some ((d_k + 1), (upd d_x_636 (Int32.toNatClampNeg x4_633) x1), (upd d_y_637 (Int32.toNatClampNeg x4_633) x2), (upd d_d_638 (Int32.toNatClampNeg x4_633) x3)))))) N d_k d_x d_y d_d) N 0 1 0
set_option maxHeartbeats 4000000 in
set_option maxRecDepth 100000 in
theorem kX5_keep {l : Launch} {G : wG} (d0 d1 d2 d3 d4 d5 d6 d7 d8 d9 d10 d11 d12 : Nat) (d_n : Int32) (d_a : Nat → Int32) (d_b : Nat → Int32) (d_c : Nat → Int32) (d_k : Int32) (d_x : Nat → Int32) (d_y : Nat → Int32) (d_d : Nat → Int32) (d_r : Nat → Int32) (d_w : Nat → Int32) (d_e : Int32) (d_1 : Nat → Int32) (d_2 : Nat → Int32) (d_o : Nat → Int32) (d_g : Nat → Int32) (d_ra : Int32) (d_rb : Int32) (d_rc : Int32) (d_t : Int32) (x1 : Int32) (x2 : Int32) (x3 : Int32) (N : Nat) (v : Int32 × (Nat → Int32) × (Nat → Int32) × (Nat → Int32)) (h : fX5_keep N d_k d_x d_y d_d x1 x2 x3 = some v) : wCv l G yX5_keep wsX5_keep ({ frames := 1, cells := 0, slots := 0, locals := 20 } : Room) [.ref d0, .int x1, .int x2, .int x3] (w_D G d0 d1 d2 d3 d4 d5 d6 d7 d8 d9 d10 d11 d12 d_n d_a d_b d_c d_k d_x d_y d_d d_r d_w d_e d_1 d_2 d_o d_g d_ra d_rb d_rc d_t) (w_D G d0 d1 d2 d3 d4 d5 d6 d7 d8 d9 d10 d11 d12 d_n d_a d_b d_c v.1 v.2.1 v.2.2.1 v.2.2.2 d_r d_w d_e d_1 d_2 d_o d_g d_ra d_rb d_rc d_t) 0 0 := by
  refine wCv.mk (cc := cX5_keep) (maxL := 9) (by decide) rfl (Nat.le_of_ble_eq_true rfl) ?_
  intro p e s m below meth c A ls hx hb hml hr hlocks hts hown hK hA hP hD hl
  have hx : p.tables.exec = Jvm.exec := hx
  have hown : s.vm.findClass RX5 = some m.cls := hown
  have hinX5 : ∀ w ∈ wsX50, w ∈ wsX5_keep := by decide +kernel
  have lk19 := hts (.fieldLink RX5 19 "ChamberwrightModel" "mx" "[I") (by decide +kernel)
  have lk22 := hts (.fieldLink RX5 22 "ChamberwrightModel" "my" "[I") (by decide +kernel)
  have lk25 := hts (.fieldLink RX5 25 "ChamberwrightModel" "md" "[I") (by decide +kernel)
  have lk78 := hts (.fieldLink RX5 78 "ChamberwrightModel" "meets" "I") (by decide +kernel)
  have hS : va_S A s.heap s.heap [] := va_S.rf
  have hP : va_P G.1 vwCl (w_D G d0 d1 d2 d3 d4 d5 d6 d7 d8 d9 d10 d11 d12 d_n d_a d_b d_c d_k d_x d_y d_d d_r d_w d_e d_1 d_2 d_o d_g d_ra d_rb d_rc d_t) s.heap := hP
  have hD : va_D A (w_D G d0 d1 d2 d3 d4 d5 d6 d7 d8 d9 d10 d11 d12 d_n d_a d_b d_c d_k d_x d_y d_d d_r d_w d_e d_1 d_2 d_o d_g d_ra d_rb d_rc d_t) := hD
  have hl : lv_has ls 9 [(0, .ref d0), (1, .int x1), (2, .int x2), (3, .int x3)] := hl
  obtain ⟨args, hargs⟩ : ∃ z : Array Value, z = ([.ref d0, .int x1, .int x2, .int x3] : List Value).toArray := ⟨_, rfl⟩
  rw [← hargs]
  rw [← hargs] at hts
  have w_88 : ∀ (k_9 : Int32 → Int32 → Int32 → Option (Int32 × (Nat → Int32) × (Nat → Int32) × (Nat → Int32))) (x1 : Int32) (x2 : Int32) (x3 : Int32) (x4 : Int32) (x6 : Int32) (x8 : Int32) (d_k : Int32) (d_x : Nat → Int32) (d_y : Nat → Int32) (d_d : Nat → Int32) (s0 : Int32) (s1 : Int32) (H : Heap) (locs : List Loc) (ls : Array Slot), (∀ (y4 : Int32) (y5 : Int32) (y6 : Int32) (H : Heap) (locs : List Loc) (ls : Array Slot), va_P G.1 vwCl (w_D G d0 d1 d2 d3 d4 d5 d6 d7 d8 d9 d10 d11 d12 d_n d_a d_b d_c d_k d_x d_y d_d d_r d_w d_e d_1 d_2 d_o d_g d_ra d_rb d_rc d_t) H → va_D A (w_D G d0 d1 d2 d3 d4 d5 d6 d7 d8 d9 d10 d11 d12 d_n d_a d_b d_c d_k d_x d_y d_d d_r d_w d_e d_1 d_2 d_o d_g d_ra d_rb d_rc d_t) → va_S A s.heap H locs → lv_has ls 9 [(0, .ref d0), (1, .int x1), (2, .int x2), (3, .int x3), (4, .int y4), (5, .int y5), (6, .int y6)] → k_9 y4 y5 y6 = some v → W p l e ({ frames := 1, cells := 0, slots := 0, locals := 20 } : Room) s m args below meth c H locs 0 0 (wQv G A below args s (w_D G d0 d1 d2 d3 d4 d5 d6 d7 d8 d9 d10 d11 d12 d_n d_a d_b d_c v.1 v.2.1 v.2.2.1 v.2.2.2 d_r d_w d_e d_1 d_2 d_o d_g d_ra d_rb d_rc d_t) 0 0) (F0 m 9 ls [])) → va_P G.1 vwCl (w_D G d0 d1 d2 d3 d4 d5 d6 d7 d8 d9 d10 d11 d12 d_n d_a d_b d_c d_k d_x d_y d_d d_r d_w d_e d_1 d_2 d_o d_g d_ra d_rb d_rc d_t) H → va_D A (w_D G d0 d1 d2 d3 d4 d5 d6 d7 d8 d9 d10 d11 d12 d_n d_a d_b d_c d_k d_x d_y d_d d_r d_w d_e d_1 d_2 d_o d_g d_ra d_rb d_rc d_t) → va_S A s.heap H locs → lv_has ls 9 [(0, .ref d0), (1, .int x1), (2, .int x2), (3, .int x3), (4, .int x4), (6, .int x6), (8, .int x8)] → fX5_keep_b88 N x8 x4 x6 s0 s1 k_9 = some v → W p l e ({ frames := 1, cells := 0, slots := 0, locals := 20 } : Room) s m args below meth c H locs 0 0 (wQv G A below args s (w_D G d0 d1 d2 d3 d4 d5 d6 d7 d8 d9 d10 d11 d12 d_n d_a d_b d_c v.1 v.2.1 v.2.2.1 v.2.2.2 d_r d_w d_e d_1 d_2 d_o d_g d_ra d_rb d_rc d_t) 0 0) (F0 m 88 ls [.int s1, .int s0]) := by
    intro k_9 x1 x2 x3 x4 x6 x8 d_k d_x d_y d_d s0 s1 H locs ls hk_9 hP hD hS hl h
    rw [fX5_keep_b88.eq_1] at h
    refine lv_iand hx hb dX5_keep_88 ?_
    refine lv_istore (lv' := [(5, .int (s0 &&& s1)), (0, .ref d0), (1, .int x1), (2, .int x2), (3, .int x3), (4, .int x4), (6, .int x6), (8, .int x8)]) hx hb dX5_keep_89 hl (by decide) rfl (fun ls hl => ?_)
    refine lv_iload hx hb dX5_keep_91 (lv_at hl 7 rfl) ?_
    refine lv_if_ge (tgt := 103) hx hb dX5_keep_93 (by decide) (fun c_605 => ?_) (fun c_605 => ?_)
    · have h := ip c_605 h
      refine lv_iload hx hb dX5_keep_103 (lv_at hl 5 rfl) ?_
      refine lv_istore (lv' := [(4, .int x4), (5, .int (s0 &&& s1)), (0, .ref d0), (1, .int x1), (2, .int x2), (3, .int x3), (6, .int x6), (8, .int x8)]) hx hb dX5_keep_105 hl (by decide) rfl (fun ls hl => ?_)
      refine lv_iinc (v := (x6 + 1)) (lv' := [(6, .int (x6 + 1)), (4, .int x4), (5, .int (s0 &&& s1)), (0, .ref d0), (1, .int x1), (2, .int x2), (3, .int x3), (8, .int x8)]) hx hb dX5_keep_107 hl (k := 6) rfl rfl (by decide) rfl (fun ls hl => ?_)
      refine lv_goto (tgt := 9) hx hb dX5_keep_110 (by decide) ?_
      exact hk_9 _ _ _ _ _ _ hP hD hS (lv_sub hl [3, 4, 5, 6, 1, 2, 0] rfl) h
    · have h := iq c_605 h
      refine lv_iload hx hb dX5_keep_96 (lv_at hl 6 rfl) ?_
      refine lv_iconst (v := 1) hx hb dX5_keep_98 (by decide) ?_
      refine lv_iadd hx hb dX5_keep_99 ?_
      refine lv_goto (tgt := 105) hx hb dX5_keep_100 (by decide) ?_
      refine lv_istore (lv' := [(4, .int (x6 + 1)), (5, .int (s0 &&& s1)), (0, .ref d0), (1, .int x1), (2, .int x2), (3, .int x3), (6, .int x6), (8, .int x8)]) hx hb dX5_keep_105 hl (by decide) rfl (fun ls hl => ?_)
      refine lv_iinc (v := (x6 + 1)) (lv' := [(6, .int (x6 + 1)), (4, .int (x6 + 1)), (5, .int (s0 &&& s1)), (0, .ref d0), (1, .int x1), (2, .int x2), (3, .int x3), (8, .int x8)]) hx hb dX5_keep_107 hl (k := 6) rfl rfl (by decide) rfl (fun ls hl => ?_)
      refine lv_goto (tgt := 9) hx hb dX5_keep_110 (by decide) ?_
      exact hk_9 _ _ _ _ _ _ hP hD hS (lv_sub hl [3, 4, 5, 6, 1, 2, 0] rfl) h
  have w_74 : ∀ (k_9 : Int32 → Int32 → Int32 → Option (Int32 × (Nat → Int32) × (Nat → Int32) × (Nat → Int32))) (x1 : Int32) (x2 : Int32) (x3 : Int32) (x4 : Int32) (x5 : Int32) (x6 : Int32) (d_k : Int32) (d_x : Nat → Int32) (d_y : Nat → Int32) (d_d : Nat → Int32) (s0 : Int32) (H : Heap) (locs : List Loc) (ls : Array Slot), (∀ (y4 : Int32) (y5 : Int32) (y6 : Int32) (H : Heap) (locs : List Loc) (ls : Array Slot), va_P G.1 vwCl (w_D G d0 d1 d2 d3 d4 d5 d6 d7 d8 d9 d10 d11 d12 d_n d_a d_b d_c d_k d_x d_y d_d d_r d_w d_e d_1 d_2 d_o d_g d_ra d_rb d_rc d_t) H → va_D A (w_D G d0 d1 d2 d3 d4 d5 d6 d7 d8 d9 d10 d11 d12 d_n d_a d_b d_c d_k d_x d_y d_d d_r d_w d_e d_1 d_2 d_o d_g d_ra d_rb d_rc d_t) → va_S A s.heap H locs → lv_has ls 9 [(0, .ref d0), (1, .int x1), (2, .int x2), (3, .int x3), (4, .int y4), (5, .int y5), (6, .int y6)] → k_9 y4 y5 y6 = some v → W p l e ({ frames := 1, cells := 0, slots := 0, locals := 20 } : Room) s m args below meth c H locs 0 0 (wQv G A below args s (w_D G d0 d1 d2 d3 d4 d5 d6 d7 d8 d9 d10 d11 d12 d_n d_a d_b d_c v.1 v.2.1 v.2.2.1 v.2.2.2 d_r d_w d_e d_1 d_2 d_o d_g d_ra d_rb d_rc d_t) 0 0) (F0 m 9 ls [])) → va_P G.1 vwCl (w_D G d0 d1 d2 d3 d4 d5 d6 d7 d8 d9 d10 d11 d12 d_n d_a d_b d_c d_k d_x d_y d_d d_r d_w d_e d_1 d_2 d_o d_g d_ra d_rb d_rc d_t) H → va_D A (w_D G d0 d1 d2 d3 d4 d5 d6 d7 d8 d9 d10 d11 d12 d_n d_a d_b d_c d_k d_x d_y d_d d_r d_w d_e d_1 d_2 d_o d_g d_ra d_rb d_rc d_t) → va_S A s.heap H locs → lv_has ls 9 [(0, .ref d0), (1, .int x1), (2, .int x2), (3, .int x3), (4, .int x4), (5, .int x5), (6, .int x6)] → fX5_keep_b74 N x4 x5 x6 s0 k_9 = some v → W p l e ({ frames := 1, cells := 0, slots := 0, locals := 20 } : Room) s m args below meth c H locs 0 0 (wQv G A below args s (w_D G d0 d1 d2 d3 d4 d5 d6 d7 d8 d9 d10 d11 d12 d_n d_a d_b d_c v.1 v.2.1 v.2.2.1 v.2.2.2 d_r d_w d_e d_1 d_2 d_o d_g d_ra d_rb d_rc d_t) 0 0) (F0 m 74 ls [.int s0]) := by
    intro k_9 x1 x2 x3 x4 x5 x6 d_k d_x d_y d_d s0 H locs ls hk_9 hP hD hS hl h
    rw [fX5_keep_b74.eq_1] at h
    refine lv_istore (lv' := [(8, .int s0), (0, .ref d0), (1, .int x1), (2, .int x2), (3, .int x3), (4, .int x4), (5, .int x5), (6, .int x6)]) hx hb dX5_keep_74 hl (by decide) rfl (fun ls hl => ?_)
    refine lv_iload hx hb dX5_keep_76 (lv_at hl 6 rfl) ?_
    refine lv_iload hx hb dX5_keep_78 (lv_at hl 0 rfl) ?_
    refine lv_if_eq (tgt := 87) hx hb dX5_keep_80 (by decide) (fun c_606 => ?_) (fun c_606 => ?_)
    · have h := ip c_606 h
      refine lv_iconst (v := 0) hx hb dX5_keep_87 (by decide) ?_
      refine w_88 _ _ _ _ _ _ _ _ _ _ _ _ _ _ _ _ (fun x4_607 x5_608 x6_609 H locs ls hP hD hS hl h => ?_) hP hD hS (lv_sub hl [1, 2, 3, 4, 5, 7, 0] rfl) h
      exact hk_9 _ _ _ _ _ _ hP hD hS (lv_sub hl [0, 1, 2, 3, 4, 5, 6] rfl) h
    · have h := iq c_606 h
      refine lv_iconst (v := 1) hx hb dX5_keep_83 (by decide) ?_
      refine lv_goto (tgt := 88) hx hb dX5_keep_84 (by decide) ?_
      refine w_88 _ _ _ _ _ _ _ _ _ _ _ _ _ _ _ _ (fun x4_610 x5_611 x6_612 H locs ls hP hD hS hl h => ?_) hP hD hS (lv_sub hl [1, 2, 3, 4, 5, 7, 0] rfl) h
      exact hk_9 _ _ _ _ _ _ hP hD hS (lv_sub hl [0, 1, 2, 3, 4, 5, 6] rfl) h
  have w_9 : ∀ (k_113 : Int32 → Int32 → Option (Int32 × (Nat → Int32) × (Nat → Int32) × (Nat → Int32))) (x1 : Int32) (x2 : Int32) (x3 : Int32) (d_k : Int32) (d_x : Nat → Int32) (d_y : Nat → Int32) (d_d : Nat → Int32) (_z : Unit), (∀ (y4 : Int32) (y5 : Int32) (H : Heap) (locs : List Loc) (ls : Array Slot), va_P G.1 vwCl (w_D G d0 d1 d2 d3 d4 d5 d6 d7 d8 d9 d10 d11 d12 d_n d_a d_b d_c d_k d_x d_y d_d d_r d_w d_e d_1 d_2 d_o d_g d_ra d_rb d_rc d_t) H → va_D A (w_D G d0 d1 d2 d3 d4 d5 d6 d7 d8 d9 d10 d11 d12 d_n d_a d_b d_c d_k d_x d_y d_d d_r d_w d_e d_1 d_2 d_o d_g d_ra d_rb d_rc d_t) → va_S A s.heap H locs → lv_has ls 9 [(0, .ref d0), (1, .int x1), (2, .int x2), (3, .int x3), (4, .int y4), (5, .int y5)] → k_113 y4 y5 = some v → W p l e ({ frames := 1, cells := 0, slots := 0, locals := 20 } : Room) s m args below meth c H locs 0 0 (wQv G A below args s (w_D G d0 d1 d2 d3 d4 d5 d6 d7 d8 d9 d10 d11 d12 d_n d_a d_b d_c v.1 v.2.1 v.2.2.1 v.2.2.2 d_r d_w d_e d_1 d_2 d_o d_g d_ra d_rb d_rc d_t) 0 0) (F0 m 113 ls [])) → ∀ (n : Nat) (x4 : Int32) (x5 : Int32) (x6 : Int32)  (H : Heap) (locs : List Loc) (ls : Array Slot), va_P G.1 vwCl (w_D G d0 d1 d2 d3 d4 d5 d6 d7 d8 d9 d10 d11 d12 d_n d_a d_b d_c d_k d_x d_y d_d d_r d_w d_e d_1 d_2 d_o d_g d_ra d_rb d_rc d_t) H → va_D A (w_D G d0 d1 d2 d3 d4 d5 d6 d7 d8 d9 d10 d11 d12 d_n d_a d_b d_c d_k d_x d_y d_d d_r d_w d_e d_1 d_2 d_o d_g d_ra d_rb d_rc d_t) → va_S A s.heap H locs → lv_has ls 9 [(0, .ref d0), (1, .int x1), (2, .int x2), (3, .int x3), (4, .int x4), (5, .int x5), (6, .int x6)] → fX5_keep_b9 N d_k d_x d_y d_d x1 x2 x3 k_113 n x4 x5 x6 = some v → W p l e ({ frames := 1, cells := 0, slots := 0, locals := 20 } : Room) s m args below meth c H locs 0 0 (wQv G A below args s (w_D G d0 d1 d2 d3 d4 d5 d6 d7 d8 d9 d10 d11 d12 d_n d_a d_b d_c v.1 v.2.1 v.2.2.1 v.2.2.2 d_r d_w d_e d_1 d_2 d_o d_g d_ra d_rb d_rc d_t) 0 0) (F0 m 9 ls []) := by
    intro k_113 x1 x2 x3 d_k d_x d_y d_d _z hk_113 n
    induction n with
    | zero =>
      intro x4 x5 x6 H locs ls hP hD hS hl h
      rw [fX5_keep_b9.eq_1] at h
      cases h
    | succ n ih =>
      intro x4 x5 x6 H locs ls hP hD hS hl h
      rw [fX5_keep_b9.eq_2] at h
      refine lv_iload hx hb dX5_keep_9 (lv_at hl 6 rfl) ?_
      refine lv_aload_n hx hb dX5_keep_11 rfl (lv_at hl 0 rfl) ?_
      refine va_get (D := G.1) (ci := 5) (v := .int d_k) (C := RX5) (T := TX5) (N := 19) hx hb hts hinX5 hown hK.1 hP 0 rfl rfl 4 (by decide) lk78 (fun _ h9 => h9) rfl dX5_keep_12 ?_
      refine lv_icmp_ge (tgt := 113) hx hb dX5_keep_15 (by decide) (fun c_613 => ?_) (fun c_613 => ?_)
      · have h := ip c_613 h
        exact hk_113 _ _ _ _ _ hP hD hS (lv_sub hl [0, 1, 2, 3, 4, 5] rfl) h
      · have h := iq c_613 h
        refine lv_aload_n hx hb dX5_keep_18 rfl (lv_at hl 0 rfl) ?_
        refine va_get (D := G.1) (ci := 5) (v := .ref d4) (C := RX5) (T := TX5) (N := 19) hx hb hts hinX5 hown hK.1 hP 0 rfl rfl 5 (by decide) lk19 (fun _ h9 => h9) rfl dX5_keep_19 ?_
        refine lv_iload hx hb dX5_keep_22 (lv_at hl 6 rfl) ?_
        refine wiald h hx hb hK hP 4 rfl dX5_keep_24 (fun v_614 h => ?_)
        refine lv_iload_n hx hb dX5_keep_25 rfl (lv_at hl 3 rfl) ?_
        refine lv_imul hx hb dX5_keep_26 ?_
        refine lv_iload_n hx hb dX5_keep_27 rfl (lv_at hl 1 rfl) ?_
        refine lv_aload_n hx hb dX5_keep_28 rfl (lv_at hl 0 rfl) ?_
        refine va_get (D := G.1) (ci := 5) (v := .ref d6) (C := RX5) (T := TX5) (N := 19) hx hb hts hinX5 hown hK.1 hP 0 rfl rfl 7 (by decide) lk25 (fun _ h9 => h9) rfl dX5_keep_29 ?_
        refine lv_iload hx hb dX5_keep_32 (lv_at hl 6 rfl) ?_
        refine wiald h hx hb hK hP 6 rfl dX5_keep_34 (fun v_615 h => ?_)
        refine lv_imul hx hb dX5_keep_35 ?_
        refine lv_isub hx hb dX5_keep_36 ?_
        obtain ⟨u_616, hc_617, h⟩ := bd_inv h
        refine wafter_i (wr := (w_D G d0 d1 d2 d3 d4 d5 d6 d7 d8 d9 d10 d11 d12 d_n d_a d_b d_c d_k d_x d_y d_d d_r d_w d_e d_1 d_2 d_o d_g d_ra d_rb d_rc d_t)) (w2 := (w_D G d0 d1 d2 d3 d4 d5 d6 d7 d8 d9 d10 d11 d12 d_n d_a d_b d_c d_k d_x d_y d_d d_r d_w d_e d_1 d_2 d_o d_g d_ra d_rb d_rc d_t)) (va_runS (As := [.int ((v_614 * x3) - (x1 * v_615))]) (rest := []) ⟨hx, hb, hml, hown, hts⟩ (kX5_sign (l := l) (G := G)   ((v_614 * x3) - (x1 * v_615)) N u_616 hc_617 _) (va_cwS 1 hts gX5_keep_X5_sign rfl rfl rfl (by decide +kernel) ⟨Nat.le_of_ble_eq_true rfl, Nat.le_of_ble_eq_true rfl⟩) (wPreS hP hD hK [] rfl rfl) rfl rfl hl.1 rfl (lv_room (Nat.le_of_ble_eq_true rfl)) dX5_keep_37 ⟨Nat.zero_le _, Nat.zero_le _⟩) hP hD hS hA [] [0, 1, 2, 3, 4, 5, 6, 7, 8, 9, 10, 11, 12] [0, 1, 2, 3, 4, 5, 6, 7, 8, 9, 10, 11, 12] rfl rfl rfl (by decide) rfl rfl (fun H locs hP hD hS => ?_)
        refine lv_istore (lv' := [(7, .int u_616), (0, .ref d0), (1, .int x1), (2, .int x2), (3, .int x3), (4, .int x4), (5, .int x5), (6, .int x6)]) hx hb dX5_keep_40 hl (by decide) rfl (fun ls hl => ?_)
        refine lv_iload hx hb dX5_keep_42 (lv_at hl 0 rfl) ?_
        refine lv_if_eq (tgt := 52) hx hb dX5_keep_44 (by decide) (fun c_618 => ?_) (fun c_618 => ?_)
        · have h := ip c_618 h
          refine lv_aload_n hx hb dX5_keep_52 rfl (lv_at hl 1 rfl) ?_
          refine va_get (D := G.1) (ci := 5) (v := .ref d5) (C := RX5) (T := TX5) (N := 19) hx hb hts hinX5 hown hK.1 hP 0 rfl rfl 6 (by decide) lk22 (fun _ h9 => h9) rfl dX5_keep_53 ?_
          refine lv_iload hx hb dX5_keep_56 (lv_at hl 7 rfl) ?_
          refine wiald h hx hb hK hP 5 rfl dX5_keep_58 (fun v_619 h => ?_)
          refine lv_iload_n hx hb dX5_keep_59 rfl (lv_at hl 4 rfl) ?_
          refine lv_imul hx hb dX5_keep_60 ?_
          refine lv_iload_n hx hb dX5_keep_61 rfl (lv_at hl 3 rfl) ?_
          refine lv_aload_n hx hb dX5_keep_62 rfl (lv_at hl 1 rfl) ?_
          refine va_get (D := G.1) (ci := 5) (v := .ref d6) (C := RX5) (T := TX5) (N := 19) hx hb hts hinX5 hown hK.1 hP 0 rfl rfl 7 (by decide) lk25 (fun _ h9 => h9) rfl dX5_keep_63 ?_
          refine lv_iload hx hb dX5_keep_66 (lv_at hl 7 rfl) ?_
          refine wiald h hx hb hK hP 6 rfl dX5_keep_68 (fun v_620 h => ?_)
          refine lv_imul hx hb dX5_keep_69 ?_
          refine lv_isub hx hb dX5_keep_70 ?_
          obtain ⟨u_621, hc_622, h⟩ := bd_inv h
          refine wafter_i (wr := (w_D G d0 d1 d2 d3 d4 d5 d6 d7 d8 d9 d10 d11 d12 d_n d_a d_b d_c d_k d_x d_y d_d d_r d_w d_e d_1 d_2 d_o d_g d_ra d_rb d_rc d_t)) (w2 := (w_D G d0 d1 d2 d3 d4 d5 d6 d7 d8 d9 d10 d11 d12 d_n d_a d_b d_c d_k d_x d_y d_d d_r d_w d_e d_1 d_2 d_o d_g d_ra d_rb d_rc d_t)) (va_runS (As := [.int ((v_619 * x3) - (x2 * v_620))]) (rest := []) ⟨hx, hb, hml, hown, hts⟩ (kX5_sign (l := l) (G := G)   ((v_619 * x3) - (x2 * v_620)) N u_621 hc_622 _) (va_cwS 1 hts gX5_keep_X5_sign rfl rfl rfl (by decide +kernel) ⟨Nat.le_of_ble_eq_true rfl, Nat.le_of_ble_eq_true rfl⟩) (wPreS hP hD hK [] rfl rfl) rfl rfl hl.1 rfl (lv_room (Nat.le_of_ble_eq_true rfl)) dX5_keep_71 ⟨Nat.zero_le _, Nat.zero_le _⟩) hP hD hS hA [] [0, 1, 2, 3, 4, 5, 6, 7, 8, 9, 10, 11, 12] [0, 1, 2, 3, 4, 5, 6, 7, 8, 9, 10, 11, 12] rfl rfl rfl (by decide) rfl rfl (fun H locs hP hD hS => ?_)
          refine w_74 _ _ _ _ _ _ _ _ _ _ _ _ _ _ _ (fun x4_623 x5_624 x6_625 H locs ls hP hD hS hl h => ?_) hP hD hS (lv_sub hl [1, 2, 3, 4, 5, 6, 7] rfl) h
          exact ih _ _ _ _ _ _ hP hD hS (lv_sub hl [0, 1, 2, 3, 4, 5, 6] rfl) h
        · have h := iq c_618 h
          refine lv_iload hx hb dX5_keep_47 (lv_at hl 0 rfl) ?_
          refine lv_goto (tgt := 74) hx hb dX5_keep_49 (by decide) ?_
          refine w_74 _ _ _ _ _ _ _ _ _ _ _ _ _ _ _ (fun x4_626 x5_627 x6_628 H locs ls hP hD hS hl h => ?_) hP hD hS (lv_sub hl [1, 2, 3, 4, 5, 6, 7] rfl) h
          exact ih _ _ _ _ _ _ hP hD hS (lv_sub hl [0, 1, 2, 3, 4, 5, 6] rfl) h
  have w_124 : ∀ (k_185 : (Nat → Int32) → (Nat → Int32) → (Nat → Int32) → Option (Int32 × (Nat → Int32) × (Nat → Int32) × (Nat → Int32))) (x1 : Int32) (x2 : Int32) (x3 : Int32) (x4 : Int32) (d_k : Int32) (_z : Unit), (∀ (yd_x : Nat → Int32) (yd_y : Nat → Int32) (yd_d : Nat → Int32) (H : Heap) (locs : List Loc) (ls : Array Slot), va_P G.1 vwCl (w_D G d0 d1 d2 d3 d4 d5 d6 d7 d8 d9 d10 d11 d12 d_n d_a d_b d_c d_k yd_x yd_y yd_d d_r d_w d_e d_1 d_2 d_o d_g d_ra d_rb d_rc d_t) H → va_D A (w_D G d0 d1 d2 d3 d4 d5 d6 d7 d8 d9 d10 d11 d12 d_n d_a d_b d_c d_k yd_x yd_y yd_d d_r d_w d_e d_1 d_2 d_o d_g d_ra d_rb d_rc d_t) → va_S A s.heap H locs → lv_has ls 9 [(0, .ref d0), (1, .int x1), (2, .int x2), (3, .int x3), (4, .int x4)] → k_185 yd_x yd_y yd_d = some v → W p l e ({ frames := 1, cells := 0, slots := 0, locals := 20 } : Room) s m args below meth c H locs 0 0 (wQv G A below args s (w_D G d0 d1 d2 d3 d4 d5 d6 d7 d8 d9 d10 d11 d12 d_n d_a d_b d_c v.1 v.2.1 v.2.2.1 v.2.2.2 d_r d_w d_e d_1 d_2 d_o d_g d_ra d_rb d_rc d_t) 0 0) (F0 m 185 ls [])) → ∀ (n : Nat) (x6 : Int32) (d_x : Nat → Int32) (d_y : Nat → Int32) (d_d : Nat → Int32) (H : Heap) (locs : List Loc) (ls : Array Slot), va_P G.1 vwCl (w_D G d0 d1 d2 d3 d4 d5 d6 d7 d8 d9 d10 d11 d12 d_n d_a d_b d_c d_k d_x d_y d_d d_r d_w d_e d_1 d_2 d_o d_g d_ra d_rb d_rc d_t) H → va_D A (w_D G d0 d1 d2 d3 d4 d5 d6 d7 d8 d9 d10 d11 d12 d_n d_a d_b d_c d_k d_x d_y d_d d_r d_w d_e d_1 d_2 d_o d_g d_ra d_rb d_rc d_t) → va_S A s.heap H locs → lv_has ls 9 [(0, .ref d0), (1, .int x1), (2, .int x2), (3, .int x3), (4, .int x4), (6, .int x6)] → fX5_keep_b124 N x4 k_185 n x6 d_x d_y d_d = some v → W p l e ({ frames := 1, cells := 0, slots := 0, locals := 20 } : Room) s m args below meth c H locs 0 0 (wQv G A below args s (w_D G d0 d1 d2 d3 d4 d5 d6 d7 d8 d9 d10 d11 d12 d_n d_a d_b d_c v.1 v.2.1 v.2.2.1 v.2.2.2 d_r d_w d_e d_1 d_2 d_o d_g d_ra d_rb d_rc d_t) 0 0) (F0 m 124 ls []) := by
    intro k_185 x1 x2 x3 x4 d_k _z hk_185 n
    induction n with
    | zero =>
      intro x6 d_x d_y d_d H locs ls hP hD hS hl h
      rw [fX5_keep_b124.eq_1] at h
      cases h
    | succ n ih =>
      intro x6 d_x d_y d_d H locs ls hP hD hS hl h
      rw [fX5_keep_b124.eq_2] at h
      refine lv_iload hx hb dX5_keep_124 (lv_at hl 5 rfl) ?_
      refine lv_iload hx hb dX5_keep_126 (lv_at hl 4 rfl) ?_
      refine lv_icmp_le (tgt := 185) hx hb dX5_keep_128 (by decide) (fun c_629 => ?_) (fun c_629 => ?_)
      · have h := ip c_629 h
        exact hk_185 _ _ _ _ _ _ hP hD hS (lv_sub hl [0, 1, 2, 3, 4] rfl) h
      · have h := iq c_629 h
        refine lv_aload_n hx hb dX5_keep_131 rfl (lv_at hl 0 rfl) ?_
        refine va_get (D := G.1) (ci := 5) (v := .ref d4) (C := RX5) (T := TX5) (N := 19) hx hb hts hinX5 hown hK.1 hP 0 rfl rfl 5 (by decide) lk19 (fun _ h9 => h9) rfl dX5_keep_132 ?_
        refine lv_iload hx hb dX5_keep_135 (lv_at hl 5 rfl) ?_
        refine lv_aload_n hx hb dX5_keep_137 rfl (lv_at hl 0 rfl) ?_
        refine va_get (D := G.1) (ci := 5) (v := .ref d4) (C := RX5) (T := TX5) (N := 19) hx hb hts hinX5 hown hK.1 hP 0 rfl rfl 5 (by decide) lk19 (fun _ h9 => h9) rfl dX5_keep_138 ?_
        refine lv_iload hx hb dX5_keep_141 (lv_at hl 5 rfl) ?_
        refine lv_iconst (v := 1) hx hb dX5_keep_143 (by decide) ?_
        refine lv_isub hx hb dX5_keep_144 ?_
        refine wiald h hx hb hK hP 4 rfl dX5_keep_145 (fun v_630 h => ?_)
        refine wiast h hx hb hK hP hD hS 4 rfl dX5_keep_146 (fun H locs hP hD hS h => ?_)
        have hP : va_P G.1 vwCl (w_D G d0 d1 d2 d3 d4 d5 d6 d7 d8 d9 d10 d11 d12 d_n d_a d_b d_c d_k ((upd d_x (Int32.toNatClampNeg x6) v_630)) d_y d_d d_r d_w d_e d_1 d_2 d_o d_g d_ra d_rb d_rc d_t) H := hP
        have hD : va_D A (w_D G d0 d1 d2 d3 d4 d5 d6 d7 d8 d9 d10 d11 d12 d_n d_a d_b d_c d_k ((upd d_x (Int32.toNatClampNeg x6) v_630)) d_y d_d d_r d_w d_e d_1 d_2 d_o d_g d_ra d_rb d_rc d_t) := hD
        refine lv_aload_n hx hb dX5_keep_147 rfl (lv_at hl 0 rfl) ?_
        refine va_get (D := G.1) (ci := 5) (v := .ref d5) (C := RX5) (T := TX5) (N := 19) hx hb hts hinX5 hown hK.1 hP 0 rfl rfl 6 (by decide) lk22 (fun _ h9 => h9) rfl dX5_keep_148 ?_
        refine lv_iload hx hb dX5_keep_151 (lv_at hl 5 rfl) ?_
        refine lv_aload_n hx hb dX5_keep_153 rfl (lv_at hl 0 rfl) ?_
        refine va_get (D := G.1) (ci := 5) (v := .ref d5) (C := RX5) (T := TX5) (N := 19) hx hb hts hinX5 hown hK.1 hP 0 rfl rfl 6 (by decide) lk22 (fun _ h9 => h9) rfl dX5_keep_154 ?_
        refine lv_iload hx hb dX5_keep_157 (lv_at hl 5 rfl) ?_
        refine lv_iconst (v := 1) hx hb dX5_keep_159 (by decide) ?_
        refine lv_isub hx hb dX5_keep_160 ?_
        refine wiald h hx hb hK hP 5 rfl dX5_keep_161 (fun v_631 h => ?_)
        refine wiast h hx hb hK hP hD hS 5 rfl dX5_keep_162 (fun H locs hP hD hS h => ?_)
        have hP : va_P G.1 vwCl (w_D G d0 d1 d2 d3 d4 d5 d6 d7 d8 d9 d10 d11 d12 d_n d_a d_b d_c d_k ((upd d_x (Int32.toNatClampNeg x6) v_630)) ((upd d_y (Int32.toNatClampNeg x6) v_631)) d_d d_r d_w d_e d_1 d_2 d_o d_g d_ra d_rb d_rc d_t) H := hP
        have hD : va_D A (w_D G d0 d1 d2 d3 d4 d5 d6 d7 d8 d9 d10 d11 d12 d_n d_a d_b d_c d_k ((upd d_x (Int32.toNatClampNeg x6) v_630)) ((upd d_y (Int32.toNatClampNeg x6) v_631)) d_d d_r d_w d_e d_1 d_2 d_o d_g d_ra d_rb d_rc d_t) := hD
        refine lv_aload_n hx hb dX5_keep_163 rfl (lv_at hl 0 rfl) ?_
        refine va_get (D := G.1) (ci := 5) (v := .ref d6) (C := RX5) (T := TX5) (N := 19) hx hb hts hinX5 hown hK.1 hP 0 rfl rfl 7 (by decide) lk25 (fun _ h9 => h9) rfl dX5_keep_164 ?_
        refine lv_iload hx hb dX5_keep_167 (lv_at hl 5 rfl) ?_
        refine lv_aload_n hx hb dX5_keep_169 rfl (lv_at hl 0 rfl) ?_
        refine va_get (D := G.1) (ci := 5) (v := .ref d6) (C := RX5) (T := TX5) (N := 19) hx hb hts hinX5 hown hK.1 hP 0 rfl rfl 7 (by decide) lk25 (fun _ h9 => h9) rfl dX5_keep_170 ?_
        refine lv_iload hx hb dX5_keep_173 (lv_at hl 5 rfl) ?_
        refine lv_iconst (v := 1) hx hb dX5_keep_175 (by decide) ?_
        refine lv_isub hx hb dX5_keep_176 ?_
        refine wiald h hx hb hK hP 6 rfl dX5_keep_177 (fun v_632 h => ?_)
        refine wiast h hx hb hK hP hD hS 6 rfl dX5_keep_178 (fun H locs hP hD hS h => ?_)
        have hP : va_P G.1 vwCl (w_D G d0 d1 d2 d3 d4 d5 d6 d7 d8 d9 d10 d11 d12 d_n d_a d_b d_c d_k ((upd d_x (Int32.toNatClampNeg x6) v_630)) ((upd d_y (Int32.toNatClampNeg x6) v_631)) ((upd d_d (Int32.toNatClampNeg x6) v_632)) d_r d_w d_e d_1 d_2 d_o d_g d_ra d_rb d_rc d_t) H := hP
        have hD : va_D A (w_D G d0 d1 d2 d3 d4 d5 d6 d7 d8 d9 d10 d11 d12 d_n d_a d_b d_c d_k ((upd d_x (Int32.toNatClampNeg x6) v_630)) ((upd d_y (Int32.toNatClampNeg x6) v_631)) ((upd d_d (Int32.toNatClampNeg x6) v_632)) d_r d_w d_e d_1 d_2 d_o d_g d_ra d_rb d_rc d_t) := hD
        refine lv_iinc (v := (x6 + (-1))) (lv' := [(6, .int (x6 + (-1))), (0, .ref d0), (1, .int x1), (2, .int x2), (3, .int x3), (4, .int x4)]) hx hb dX5_keep_179 hl (k := 5) rfl rfl (by decide) rfl (fun ls hl => ?_)
        refine lv_goto (tgt := 124) hx hb dX5_keep_182 (by decide) ?_
        exact ih _ _ _ _ _ _ _ hP hD hS (lv_sub hl [1, 2, 3, 4, 5, 0] rfl) h
  rw [fX5_keep.eq_1] at h
  refine lv_iconst (v := 0) hx hb dX5_keep_0 (by decide) ?_
  refine lv_istore (lv' := [(4, .int 0), (0, .ref d0), (1, .int x1), (2, .int x2), (3, .int x3)]) hx hb dX5_keep_1 hl (by decide) rfl (fun ls hl => ?_)
  refine lv_iconst (v := 1) hx hb dX5_keep_3 (by decide) ?_
  refine lv_istore (lv' := [(5, .int 1), (4, .int 0), (0, .ref d0), (1, .int x1), (2, .int x2), (3, .int x3)]) hx hb dX5_keep_4 hl (by decide) rfl (fun ls hl => ?_)
  refine lv_iconst (v := 0) hx hb dX5_keep_6 (by decide) ?_
  refine lv_istore (lv' := [(6, .int 0), (5, .int 1), (4, .int 0), (0, .ref d0), (1, .int x1), (2, .int x2), (3, .int x3)]) hx hb dX5_keep_7 hl (by decide) rfl (fun ls hl => ?_)
  refine w_9 _ _ _ _ _ _ _ _ () (fun x4_633 x5_634 H locs ls hP hD hS hl h => ?_) N _ _ _  _ _ _ hP hD hS (lv_sub hl [3, 4, 5, 6, 2, 1, 0] rfl) h
  refine lv_iload hx hb dX5_keep_113 (lv_at hl 5 rfl) ?_
  refine lv_if_eq (tgt := 219) hx hb dX5_keep_115 (by decide) (fun c_635 => ?_) (fun c_635 => ?_)
  · have h := ip c_635 h
    obtain rfl := Option.some.inj h
    exact wrv hx hb hr hlocks hP hD hS (Nat.le_of_ble_eq_true rfl) (Nat.le_of_ble_eq_true rfl) dX5_keep_219
  · have h := iq c_635 h
    refine lv_aload_n hx hb dX5_keep_118 rfl (lv_at hl 0 rfl) ?_
    refine va_get (D := G.1) (ci := 5) (v := .int d_k) (C := RX5) (T := TX5) (N := 19) hx hb hts hinX5 hown hK.1 hP 0 rfl rfl 4 (by decide) lk78 (fun _ h9 => h9) rfl dX5_keep_119 ?_
    refine lv_istore (lv' := [(6, .int d_k), (0, .ref d0), (1, .int x1), (2, .int x2), (3, .int x3), (4, .int x4_633), (5, .int x5_634)]) hx hb dX5_keep_122 hl (by decide) rfl (fun ls hl => ?_)
    refine w_124 _ _ _ _ _ _ () (fun d_x_636 d_y_637 d_d_638 H locs ls hP hD hS hl h => ?_) N _ _ _ _ _ _ _ hP hD hS (lv_sub hl [1, 2, 3, 4, 5, 0] rfl) h
    refine lv_aload_n hx hb dX5_keep_185 rfl (lv_at hl 0 rfl) ?_
    refine va_get (D := G.1) (ci := 5) (v := .ref d4) (C := RX5) (T := TX5) (N := 19) hx hb hts hinX5 hown hK.1 hP 0 rfl rfl 5 (by decide) lk19 (fun _ h9 => h9) rfl dX5_keep_186 ?_
    refine lv_iload hx hb dX5_keep_189 (lv_at hl 4 rfl) ?_
    refine lv_iload_n hx hb dX5_keep_191 rfl (lv_at hl 1 rfl) ?_
    refine wiast h hx hb hK hP hD hS 4 rfl dX5_keep_192 (fun H locs hP hD hS h => ?_)
    have hP : va_P G.1 vwCl (w_D G d0 d1 d2 d3 d4 d5 d6 d7 d8 d9 d10 d11 d12 d_n d_a d_b d_c d_k ((upd d_x_636 (Int32.toNatClampNeg x4_633) x1)) d_y_637 d_d_638 d_r d_w d_e d_1 d_2 d_o d_g d_ra d_rb d_rc d_t) H := hP
    have hD : va_D A (w_D G d0 d1 d2 d3 d4 d5 d6 d7 d8 d9 d10 d11 d12 d_n d_a d_b d_c d_k ((upd d_x_636 (Int32.toNatClampNeg x4_633) x1)) d_y_637 d_d_638 d_r d_w d_e d_1 d_2 d_o d_g d_ra d_rb d_rc d_t) := hD
    refine lv_aload_n hx hb dX5_keep_193 rfl (lv_at hl 0 rfl) ?_
    refine va_get (D := G.1) (ci := 5) (v := .ref d5) (C := RX5) (T := TX5) (N := 19) hx hb hts hinX5 hown hK.1 hP 0 rfl rfl 6 (by decide) lk22 (fun _ h9 => h9) rfl dX5_keep_194 ?_
    refine lv_iload hx hb dX5_keep_197 (lv_at hl 4 rfl) ?_
    refine lv_iload_n hx hb dX5_keep_199 rfl (lv_at hl 2 rfl) ?_
    refine wiast h hx hb hK hP hD hS 5 rfl dX5_keep_200 (fun H locs hP hD hS h => ?_)
    have hP : va_P G.1 vwCl (w_D G d0 d1 d2 d3 d4 d5 d6 d7 d8 d9 d10 d11 d12 d_n d_a d_b d_c d_k ((upd d_x_636 (Int32.toNatClampNeg x4_633) x1)) ((upd d_y_637 (Int32.toNatClampNeg x4_633) x2)) d_d_638 d_r d_w d_e d_1 d_2 d_o d_g d_ra d_rb d_rc d_t) H := hP
    have hD : va_D A (w_D G d0 d1 d2 d3 d4 d5 d6 d7 d8 d9 d10 d11 d12 d_n d_a d_b d_c d_k ((upd d_x_636 (Int32.toNatClampNeg x4_633) x1)) ((upd d_y_637 (Int32.toNatClampNeg x4_633) x2)) d_d_638 d_r d_w d_e d_1 d_2 d_o d_g d_ra d_rb d_rc d_t) := hD
    refine lv_aload_n hx hb dX5_keep_201 rfl (lv_at hl 0 rfl) ?_
    refine va_get (D := G.1) (ci := 5) (v := .ref d6) (C := RX5) (T := TX5) (N := 19) hx hb hts hinX5 hown hK.1 hP 0 rfl rfl 7 (by decide) lk25 (fun _ h9 => h9) rfl dX5_keep_202 ?_
    refine lv_iload hx hb dX5_keep_205 (lv_at hl 4 rfl) ?_
    refine lv_iload_n hx hb dX5_keep_207 rfl (lv_at hl 3 rfl) ?_
    refine wiast h hx hb hK hP hD hS 6 rfl dX5_keep_208 (fun H locs hP hD hS h => ?_)
    have hP : va_P G.1 vwCl (w_D G d0 d1 d2 d3 d4 d5 d6 d7 d8 d9 d10 d11 d12 d_n d_a d_b d_c d_k ((upd d_x_636 (Int32.toNatClampNeg x4_633) x1)) ((upd d_y_637 (Int32.toNatClampNeg x4_633) x2)) ((upd d_d_638 (Int32.toNatClampNeg x4_633) x3)) d_r d_w d_e d_1 d_2 d_o d_g d_ra d_rb d_rc d_t) H := hP
    have hD : va_D A (w_D G d0 d1 d2 d3 d4 d5 d6 d7 d8 d9 d10 d11 d12 d_n d_a d_b d_c d_k ((upd d_x_636 (Int32.toNatClampNeg x4_633) x1)) ((upd d_y_637 (Int32.toNatClampNeg x4_633) x2)) ((upd d_d_638 (Int32.toNatClampNeg x4_633) x3)) d_r d_w d_e d_1 d_2 d_o d_g d_ra d_rb d_rc d_t) := hD
    refine lv_aload_n hx hb dX5_keep_209 rfl (lv_at hl 0 rfl) ?_
    refine lv_dup hx hb dX5_keep_210 rfl ?_
    refine va_get (D := G.1) (ci := 5) (v := .int d_k) (C := RX5) (T := TX5) (N := 19) hx hb hts hinX5 hown hK.1 hP 0 rfl rfl 4 (by decide) lk78 (fun _ h9 => h9) rfl dX5_keep_211 ?_
    refine lv_iconst (v := 1) hx hb dX5_keep_214 (by decide) ?_
    refine lv_iadd hx hb dX5_keep_215 ?_
    refine va_put (D := G.1) (ci := 5) (v := .int (d_k + 1)) (ty := .int) (C := RX5) (T := TX5) (N := 19) hx hb hts hinX5 tyX5 tyX5_ok nmX5 hown hK.1 hP hD hS 0 rfl rfl 4 (by decide) lk78 (fun _ h9 => h9) rfl (by decide +kernel) rfl rfl (Nat.le_of_ble_eq_true rfl) dX5_keep_216 (fun H locs hP hD hS => ?_)
    have hP : va_P G.1 vwCl (w_D G d0 d1 d2 d3 d4 d5 d6 d7 d8 d9 d10 d11 d12 d_n d_a d_b d_c ((d_k + 1)) ((upd d_x_636 (Int32.toNatClampNeg x4_633) x1)) ((upd d_y_637 (Int32.toNatClampNeg x4_633) x2)) ((upd d_d_638 (Int32.toNatClampNeg x4_633) x3)) d_r d_w d_e d_1 d_2 d_o d_g d_ra d_rb d_rc d_t) H := hP
    have hD : va_D A (w_D G d0 d1 d2 d3 d4 d5 d6 d7 d8 d9 d10 d11 d12 d_n d_a d_b d_c ((d_k + 1)) ((upd d_x_636 (Int32.toNatClampNeg x4_633) x1)) ((upd d_y_637 (Int32.toNatClampNeg x4_633) x2)) ((upd d_d_638 (Int32.toNatClampNeg x4_633) x3)) d_r d_w d_e d_1 d_2 d_o d_g d_ra d_rb d_rc d_t) := hD
    obtain rfl := Option.some.inj h
    exact wrv hx hb hr hlocks hP hD hS (Nat.le_of_ble_eq_true rfl) (Nat.le_of_ble_eq_true rfl) dX5_keep_219
def fX5_findMeets_b17 (N : Nat) (d_a : Nat → Int32) (d_b : Nat → Int32) (d_c : Nat → Int32) (x1 : Int32) (k_154 : Int32 → (Nat → Int32) → (Nat → Int32) → (Nat → Int32) → Option (Int32 × (Nat → Int32) × (Nat → Int32) × (Nat → Int32))) : Nat → Int32 → Int32 → (Nat → Int32) → (Nat → Int32) → (Nat → Int32) → Option (Int32 × (Nat → Int32) × (Nat → Int32) × (Nat → Int32))
  | 0, _, _, _, _, _ => none
  | n + 1, x2, d_k, d_x, d_y, d_d => if x1 ≤ x2 then k_154 d_k d_x d_y d_d else rd d_a 9 x1 (fun v_640 => rd d_b 9 x2 (fun v_641 => rd d_a 9 x2 (fun v_642 => rd d_b 9 x1 (fun v_643 => nm ((v_640 * v_641) - (v_642 * v_643)) (fun x3_644 => if x3_644 = 0 then fX5_findMeets_b17 N d_a d_b d_c x1 k_154 n (x2 + 1) d_k d_x d_y d_d else rd d_c 9 x1 (fun v_646 => rd d_b 9 x2 (fun v_647 => rd d_c 9 x2 (fun v_648 => rd d_b 9 x1 (fun v_649 => nm ((v_646 * v_647) - (v_648 * v_649)) (fun x4_650 => rd d_a 9 x1 (fun v_651 => rd d_c 9 x2 (fun v_652 => rd d_a 9 x2 (fun v_653 => rd d_c 9 x1 (fun v_654 => nm ((v_651 * v_652) - (v_653 * v_654)) (fun x5_655 => bd (fX5_common N x4_650 x5_655) (fun u_656 => bd (fX5_common N u_656 x3_644) (fun u_658 => bd (fX5_sign N x3_644) (fun u_660 => nz (u_658 * u_660) (nz (u_658 * u_660) (nz (u_658 * u_660) (bd (fX5_keep N d_k d_x d_y d_d (x4_650 / (u_658 * u_660)) (x5_655 / (u_658 * u_660)) (x3_644 / (u_658 * u_660))) (fun u_662 => fX5_findMeets_b17 N d_a d_b d_c x1 k_154 n (x2 + 1) u_662.1 u_662.2.1 u_662.2.2.1 u_662.2.2.2))))))))))))))))))))))
def fX5_findMeets_b7 (N : Nat) (d_n : Int32) (d_a : Nat → Int32) (d_b : Nat → Int32) (d_c : Nat → Int32) : Nat → Int32 → Int32 → (Nat → Int32) → (Nat → Int32) → (Nat → Int32) → Option (Int32 × (Nat → Int32) × (Nat → Int32) × (Nat → Int32))
  | 0, _, _, _, _, _ => none
  | n + 1, x1, d_k, d_x, d_y, d_d => if d_n ≤ x1 then some (d_k, d_x, d_y, d_d) else fX5_findMeets_b17 N d_a d_b d_c x1 (fun (d_k_665 : Int32) (d_x_666 : Nat → Int32) (d_y_667 : Nat → Int32) (d_d_668 : Nat → Int32) => fX5_findMeets_b7 N d_n d_a d_b d_c n (x1 + 1) d_k_665 d_x_666 d_y_667 d_d_668) N 0 d_k d_x d_y d_d
def fX5_findMeets (N : Nat) (d_n : Int32) (d_a : Nat → Int32) (d_b : Nat → Int32) (d_c : Nat → Int32) (d_k : Int32) (d_x : Nat → Int32) (d_y : Nat → Int32) (d_d : Nat → Int32) : Option (Int32 × (Nat → Int32) × (Nat → Int32) × (Nat → Int32)) := fX5_findMeets_b7 N d_n d_a d_b d_c N 0 0 d_x d_y d_d
set_option maxHeartbeats 4000000 in
set_option maxRecDepth 100000 in
theorem kX5_findMeets {l : Launch} {G : wG} (d0 d1 d2 d3 d4 d5 d6 d7 d8 d9 d10 d11 d12 : Nat) (d_n : Int32) (d_a : Nat → Int32) (d_b : Nat → Int32) (d_c : Nat → Int32) (d_k : Int32) (d_x : Nat → Int32) (d_y : Nat → Int32) (d_d : Nat → Int32) (d_r : Nat → Int32) (d_w : Nat → Int32) (d_e : Int32) (d_1 : Nat → Int32) (d_2 : Nat → Int32) (d_o : Nat → Int32) (d_g : Nat → Int32) (d_ra : Int32) (d_rb : Int32) (d_rc : Int32) (d_t : Int32) (N : Nat) (v : Int32 × (Nat → Int32) × (Nat → Int32) × (Nat → Int32)) (h : fX5_findMeets N d_n d_a d_b d_c d_k d_x d_y d_d = some v) : wCv l G yX5_findMeets wsX5_findMeets ({ frames := 2, cells := 0, slots := 0, locals := 48 } : Room) [.ref d0] (w_D G d0 d1 d2 d3 d4 d5 d6 d7 d8 d9 d10 d11 d12 d_n d_a d_b d_c d_k d_x d_y d_d d_r d_w d_e d_1 d_2 d_o d_g d_ra d_rb d_rc d_t) (w_D G d0 d1 d2 d3 d4 d5 d6 d7 d8 d9 d10 d11 d12 d_n d_a d_b d_c v.1 v.2.1 v.2.2.1 v.2.2.2 d_r d_w d_e d_1 d_2 d_o d_g d_ra d_rb d_rc d_t) 0 0 := by
  refine wCv.mk (cc := cX5_findMeets) (maxL := 7) (by decide) rfl (Nat.le_of_ble_eq_true rfl) ?_
  intro p e s m below meth c A ls hx hb hml hr hlocks hts hown hK hA hP hD hl
  have hx : p.tables.exec = Jvm.exec := hx
  have hown : s.vm.findClass RX5 = some m.cls := hown
  have hinX5 : ∀ w ∈ wsX50, w ∈ wsX5_findMeets := by decide +kernel
  have lk13 := hts (.fieldLink RX5 13 "ChamberwrightModel" "lb" "[I") (by decide +kernel)
  have lk16 := hts (.fieldLink RX5 16 "ChamberwrightModel" "lc" "[I") (by decide +kernel)
  have lk51 := hts (.fieldLink RX5 51 "ChamberwrightModel" "lines" "I") (by decide +kernel)
  have lk7 := hts (.fieldLink RX5 7 "ChamberwrightModel" "la" "[I") (by decide +kernel)
  have lk78 := hts (.fieldLink RX5 78 "ChamberwrightModel" "meets" "I") (by decide +kernel)
  have hS : va_S A s.heap s.heap [] := va_S.rf
  have hP : va_P G.1 vwCl (w_D G d0 d1 d2 d3 d4 d5 d6 d7 d8 d9 d10 d11 d12 d_n d_a d_b d_c d_k d_x d_y d_d d_r d_w d_e d_1 d_2 d_o d_g d_ra d_rb d_rc d_t) s.heap := hP
  have hD : va_D A (w_D G d0 d1 d2 d3 d4 d5 d6 d7 d8 d9 d10 d11 d12 d_n d_a d_b d_c d_k d_x d_y d_d d_r d_w d_e d_1 d_2 d_o d_g d_ra d_rb d_rc d_t) := hD
  have hl : lv_has ls 7 [(0, .ref d0)] := hl
  obtain ⟨args, hargs⟩ : ∃ z : Array Value, z = ([.ref d0] : List Value).toArray := ⟨_, rfl⟩
  rw [← hargs]
  rw [← hargs] at hts
  have w_17 : ∀ (k_154 : Int32 → (Nat → Int32) → (Nat → Int32) → (Nat → Int32) → Option (Int32 × (Nat → Int32) × (Nat → Int32) × (Nat → Int32))) (x1 : Int32)  (_z : Unit), (∀ (yd_k : Int32) (yd_x : Nat → Int32) (yd_y : Nat → Int32) (yd_d : Nat → Int32) (H : Heap) (locs : List Loc) (ls : Array Slot), va_P G.1 vwCl (w_D G d0 d1 d2 d3 d4 d5 d6 d7 d8 d9 d10 d11 d12 d_n d_a d_b d_c yd_k yd_x yd_y yd_d d_r d_w d_e d_1 d_2 d_o d_g d_ra d_rb d_rc d_t) H → va_D A (w_D G d0 d1 d2 d3 d4 d5 d6 d7 d8 d9 d10 d11 d12 d_n d_a d_b d_c yd_k yd_x yd_y yd_d d_r d_w d_e d_1 d_2 d_o d_g d_ra d_rb d_rc d_t) → va_S A s.heap H locs → lv_has ls 7 [(0, .ref d0), (1, .int x1)] → k_154 yd_k yd_x yd_y yd_d = some v → W p l e ({ frames := 2, cells := 0, slots := 0, locals := 48 } : Room) s m args below meth c H locs 0 0 (wQv G A below args s (w_D G d0 d1 d2 d3 d4 d5 d6 d7 d8 d9 d10 d11 d12 d_n d_a d_b d_c v.1 v.2.1 v.2.2.1 v.2.2.2 d_r d_w d_e d_1 d_2 d_o d_g d_ra d_rb d_rc d_t) 0 0) (F0 m 154 ls [])) → ∀ (n : Nat) (x2 : Int32) (d_k : Int32) (d_x : Nat → Int32) (d_y : Nat → Int32) (d_d : Nat → Int32) (H : Heap) (locs : List Loc) (ls : Array Slot), va_P G.1 vwCl (w_D G d0 d1 d2 d3 d4 d5 d6 d7 d8 d9 d10 d11 d12 d_n d_a d_b d_c d_k d_x d_y d_d d_r d_w d_e d_1 d_2 d_o d_g d_ra d_rb d_rc d_t) H → va_D A (w_D G d0 d1 d2 d3 d4 d5 d6 d7 d8 d9 d10 d11 d12 d_n d_a d_b d_c d_k d_x d_y d_d d_r d_w d_e d_1 d_2 d_o d_g d_ra d_rb d_rc d_t) → va_S A s.heap H locs → lv_has ls 7 [(0, .ref d0), (1, .int x1), (2, .int x2)] → fX5_findMeets_b17 N d_a d_b d_c x1 k_154 n x2 d_k d_x d_y d_d = some v → W p l e ({ frames := 2, cells := 0, slots := 0, locals := 48 } : Room) s m args below meth c H locs 0 0 (wQv G A below args s (w_D G d0 d1 d2 d3 d4 d5 d6 d7 d8 d9 d10 d11 d12 d_n d_a d_b d_c v.1 v.2.1 v.2.2.1 v.2.2.2 d_r d_w d_e d_1 d_2 d_o d_g d_ra d_rb d_rc d_t) 0 0) (F0 m 17 ls []) := by
    intro k_154 x1 _z hk_154 n
    induction n with
    | zero =>
      intro x2 d_k d_x d_y d_d H locs ls hP hD hS hl h
      rw [fX5_findMeets_b17.eq_1] at h
      cases h
    | succ n ih =>
      intro x2 d_k d_x d_y d_d H locs ls hP hD hS hl h
      rw [fX5_findMeets_b17.eq_2] at h
      refine lv_iload_n hx hb dX5_findMeets_17 rfl (lv_at hl 2 rfl) ?_
      refine lv_iload_n hx hb dX5_findMeets_18 rfl (lv_at hl 1 rfl) ?_
      refine lv_icmp_ge (tgt := 154) hx hb dX5_findMeets_19 (by decide) (fun c_639 => ?_) (fun c_639 => ?_)
      · have h := ip c_639 h
        exact hk_154 _ _ _ _ _ _ _ hP hD hS (lv_sub hl [0, 1] rfl) h
      · have h := iq c_639 h
        refine lv_aload_n hx hb dX5_findMeets_22 rfl (lv_at hl 0 rfl) ?_
        refine va_get (D := G.1) (ci := 5) (v := .ref d1) (C := RX5) (T := TX5) (N := 19) hx hb hts hinX5 hown hK.1 hP 0 rfl rfl 1 (by decide) lk7 (fun _ h9 => h9) rfl dX5_findMeets_23 ?_
        refine lv_iload_n hx hb dX5_findMeets_26 rfl (lv_at hl 1 rfl) ?_
        refine wiald h hx hb hK hP 1 rfl dX5_findMeets_27 (fun v_640 h => ?_)
        refine lv_aload_n hx hb dX5_findMeets_28 rfl (lv_at hl 0 rfl) ?_
        refine va_get (D := G.1) (ci := 5) (v := .ref d2) (C := RX5) (T := TX5) (N := 19) hx hb hts hinX5 hown hK.1 hP 0 rfl rfl 2 (by decide) lk13 (fun _ h9 => h9) rfl dX5_findMeets_29 ?_
        refine lv_iload_n hx hb dX5_findMeets_32 rfl (lv_at hl 2 rfl) ?_
        refine wiald h hx hb hK hP 2 rfl dX5_findMeets_33 (fun v_641 h => ?_)
        refine lv_imul hx hb dX5_findMeets_34 ?_
        refine lv_aload_n hx hb dX5_findMeets_35 rfl (lv_at hl 0 rfl) ?_
        refine va_get (D := G.1) (ci := 5) (v := .ref d1) (C := RX5) (T := TX5) (N := 19) hx hb hts hinX5 hown hK.1 hP 0 rfl rfl 1 (by decide) lk7 (fun _ h9 => h9) rfl dX5_findMeets_36 ?_
        refine lv_iload_n hx hb dX5_findMeets_39 rfl (lv_at hl 2 rfl) ?_
        refine wiald h hx hb hK hP 1 rfl dX5_findMeets_40 (fun v_642 h => ?_)
        refine lv_aload_n hx hb dX5_findMeets_41 rfl (lv_at hl 0 rfl) ?_
        refine va_get (D := G.1) (ci := 5) (v := .ref d2) (C := RX5) (T := TX5) (N := 19) hx hb hts hinX5 hown hK.1 hP 0 rfl rfl 2 (by decide) lk13 (fun _ h9 => h9) rfl dX5_findMeets_42 ?_
        refine lv_iload_n hx hb dX5_findMeets_45 rfl (lv_at hl 1 rfl) ?_
        refine wiald h hx hb hK hP 2 rfl dX5_findMeets_46 (fun v_643 h => ?_)
        refine lv_imul hx hb dX5_findMeets_47 ?_
        refine lv_isub hx hb dX5_findMeets_48 ?_
        refine wnmi h (fun x3_644 h => ?_)
        refine lv_istore_n (lv' := [(3, .int x3_644), (0, .ref d0), (1, .int x1), (2, .int x2)]) hx hb dX5_findMeets_49 rfl hl (by decide) rfl (fun ls hl => ?_)
        refine lv_iload_n hx hb dX5_findMeets_50 rfl (lv_at hl 0 rfl) ?_
        refine lv_if_eq (tgt := 148) hx hb dX5_findMeets_51 (by decide) (fun c_645 => ?_) (fun c_645 => ?_)
        · have h := ip c_645 h
          refine lv_iinc (v := (x2 + 1)) (lv' := [(2, .int (x2 + 1)), (3, .int x3_644), (0, .ref d0), (1, .int x1)]) hx hb dX5_findMeets_148 hl (k := 3) rfl rfl (by decide) rfl (fun ls hl => ?_)
          refine lv_goto (tgt := 17) hx hb dX5_findMeets_151 (by decide) ?_
          exact ih _ _ _ _ _ _ _ _ hP hD hS (lv_sub hl [2, 3, 0] rfl) h
        · have h := iq c_645 h
          refine lv_aload_n hx hb dX5_findMeets_54 rfl (lv_at hl 1 rfl) ?_
          refine va_get (D := G.1) (ci := 5) (v := .ref d3) (C := RX5) (T := TX5) (N := 19) hx hb hts hinX5 hown hK.1 hP 0 rfl rfl 3 (by decide) lk16 (fun _ h9 => h9) rfl dX5_findMeets_55 ?_
          refine lv_iload_n hx hb dX5_findMeets_58 rfl (lv_at hl 2 rfl) ?_
          refine wiald h hx hb hK hP 3 rfl dX5_findMeets_59 (fun v_646 h => ?_)
          refine lv_aload_n hx hb dX5_findMeets_60 rfl (lv_at hl 1 rfl) ?_
          refine va_get (D := G.1) (ci := 5) (v := .ref d2) (C := RX5) (T := TX5) (N := 19) hx hb hts hinX5 hown hK.1 hP 0 rfl rfl 2 (by decide) lk13 (fun _ h9 => h9) rfl dX5_findMeets_61 ?_
          refine lv_iload_n hx hb dX5_findMeets_64 rfl (lv_at hl 3 rfl) ?_
          refine wiald h hx hb hK hP 2 rfl dX5_findMeets_65 (fun v_647 h => ?_)
          refine lv_imul hx hb dX5_findMeets_66 ?_
          refine lv_aload_n hx hb dX5_findMeets_67 rfl (lv_at hl 1 rfl) ?_
          refine va_get (D := G.1) (ci := 5) (v := .ref d3) (C := RX5) (T := TX5) (N := 19) hx hb hts hinX5 hown hK.1 hP 0 rfl rfl 3 (by decide) lk16 (fun _ h9 => h9) rfl dX5_findMeets_68 ?_
          refine lv_iload_n hx hb dX5_findMeets_71 rfl (lv_at hl 3 rfl) ?_
          refine wiald h hx hb hK hP 3 rfl dX5_findMeets_72 (fun v_648 h => ?_)
          refine lv_aload_n hx hb dX5_findMeets_73 rfl (lv_at hl 1 rfl) ?_
          refine va_get (D := G.1) (ci := 5) (v := .ref d2) (C := RX5) (T := TX5) (N := 19) hx hb hts hinX5 hown hK.1 hP 0 rfl rfl 2 (by decide) lk13 (fun _ h9 => h9) rfl dX5_findMeets_74 ?_
          refine lv_iload_n hx hb dX5_findMeets_77 rfl (lv_at hl 2 rfl) ?_
          refine wiald h hx hb hK hP 2 rfl dX5_findMeets_78 (fun v_649 h => ?_)
          refine lv_imul hx hb dX5_findMeets_79 ?_
          refine lv_isub hx hb dX5_findMeets_80 ?_
          refine wnmi h (fun x4_650 h => ?_)
          refine lv_istore (lv' := [(4, .int x4_650), (3, .int x3_644), (0, .ref d0), (1, .int x1), (2, .int x2)]) hx hb dX5_findMeets_81 hl (by decide) rfl (fun ls hl => ?_)
          refine lv_aload_n hx hb dX5_findMeets_83 rfl (lv_at hl 2 rfl) ?_
          refine va_get (D := G.1) (ci := 5) (v := .ref d1) (C := RX5) (T := TX5) (N := 19) hx hb hts hinX5 hown hK.1 hP 0 rfl rfl 1 (by decide) lk7 (fun _ h9 => h9) rfl dX5_findMeets_84 ?_
          refine lv_iload_n hx hb dX5_findMeets_87 rfl (lv_at hl 3 rfl) ?_
          refine wiald h hx hb hK hP 1 rfl dX5_findMeets_88 (fun v_651 h => ?_)
          refine lv_aload_n hx hb dX5_findMeets_89 rfl (lv_at hl 2 rfl) ?_
          refine va_get (D := G.1) (ci := 5) (v := .ref d3) (C := RX5) (T := TX5) (N := 19) hx hb hts hinX5 hown hK.1 hP 0 rfl rfl 3 (by decide) lk16 (fun _ h9 => h9) rfl dX5_findMeets_90 ?_
          refine lv_iload_n hx hb dX5_findMeets_93 rfl (lv_at hl 4 rfl) ?_
          refine wiald h hx hb hK hP 3 rfl dX5_findMeets_94 (fun v_652 h => ?_)
          refine lv_imul hx hb dX5_findMeets_95 ?_
          refine lv_aload_n hx hb dX5_findMeets_96 rfl (lv_at hl 2 rfl) ?_
          refine va_get (D := G.1) (ci := 5) (v := .ref d1) (C := RX5) (T := TX5) (N := 19) hx hb hts hinX5 hown hK.1 hP 0 rfl rfl 1 (by decide) lk7 (fun _ h9 => h9) rfl dX5_findMeets_97 ?_
          refine lv_iload_n hx hb dX5_findMeets_100 rfl (lv_at hl 4 rfl) ?_
          refine wiald h hx hb hK hP 1 rfl dX5_findMeets_101 (fun v_653 h => ?_)
          refine lv_aload_n hx hb dX5_findMeets_102 rfl (lv_at hl 2 rfl) ?_
          refine va_get (D := G.1) (ci := 5) (v := .ref d3) (C := RX5) (T := TX5) (N := 19) hx hb hts hinX5 hown hK.1 hP 0 rfl rfl 3 (by decide) lk16 (fun _ h9 => h9) rfl dX5_findMeets_103 ?_
          refine lv_iload_n hx hb dX5_findMeets_106 rfl (lv_at hl 3 rfl) ?_
          refine wiald h hx hb hK hP 3 rfl dX5_findMeets_107 (fun v_654 h => ?_)
          refine lv_imul hx hb dX5_findMeets_108 ?_
          refine lv_isub hx hb dX5_findMeets_109 ?_
          refine wnmi h (fun x5_655 h => ?_)
          refine lv_istore (lv' := [(5, .int x5_655), (4, .int x4_650), (3, .int x3_644), (0, .ref d0), (1, .int x1), (2, .int x2)]) hx hb dX5_findMeets_110 hl (by decide) rfl (fun ls hl => ?_)
          refine lv_iload hx hb dX5_findMeets_112 (lv_at hl 1 rfl) ?_
          refine lv_iload hx hb dX5_findMeets_114 (lv_at hl 0 rfl) ?_
          obtain ⟨u_656, hc_657, h⟩ := bd_inv h
          refine wafter_i (wr := (w_D G d0 d1 d2 d3 d4 d5 d6 d7 d8 d9 d10 d11 d12 d_n d_a d_b d_c d_k d_x d_y d_d d_r d_w d_e d_1 d_2 d_o d_g d_ra d_rb d_rc d_t)) (w2 := (w_D G d0 d1 d2 d3 d4 d5 d6 d7 d8 d9 d10 d11 d12 d_n d_a d_b d_c d_k d_x d_y d_d d_r d_w d_e d_1 d_2 d_o d_g d_ra d_rb d_rc d_t)) (va_runS (As := [.int x4_650, .int x5_655]) (rest := []) ⟨hx, hb, hml, hown, hts⟩ (kX5_common (l := l) (G := G)   x4_650 x5_655 N u_656 hc_657 _) (va_cwS 2 hts gX5_findMeets_X5_common rfl rfl rfl (by decide +kernel) ⟨Nat.le_of_ble_eq_true rfl, Nat.le_of_ble_eq_true rfl⟩) (wPreS hP hD hK [] rfl rfl) rfl rfl hl.1 rfl (lv_room (Nat.le_of_ble_eq_true rfl)) dX5_findMeets_116 ⟨Nat.zero_le _, Nat.zero_le _⟩) hP hD hS hA [] [0, 1, 2, 3, 4, 5, 6, 7, 8, 9, 10, 11, 12] [0, 1, 2, 3, 4, 5, 6, 7, 8, 9, 10, 11, 12] rfl rfl rfl (by decide) rfl rfl (fun H locs hP hD hS => ?_)
          refine lv_iload_n hx hb dX5_findMeets_119 rfl (lv_at hl 2 rfl) ?_
          obtain ⟨u_658, hc_659, h⟩ := bd_inv h
          refine wafter_i (wr := (w_D G d0 d1 d2 d3 d4 d5 d6 d7 d8 d9 d10 d11 d12 d_n d_a d_b d_c d_k d_x d_y d_d d_r d_w d_e d_1 d_2 d_o d_g d_ra d_rb d_rc d_t)) (w2 := (w_D G d0 d1 d2 d3 d4 d5 d6 d7 d8 d9 d10 d11 d12 d_n d_a d_b d_c d_k d_x d_y d_d d_r d_w d_e d_1 d_2 d_o d_g d_ra d_rb d_rc d_t)) (va_runS (As := [.int u_656, .int x3_644]) (rest := []) ⟨hx, hb, hml, hown, hts⟩ (kX5_common (l := l) (G := G)   u_656 x3_644 N u_658 hc_659 _) (va_cwS 2 hts gX5_findMeets_X5_common rfl rfl rfl (by decide +kernel) ⟨Nat.le_of_ble_eq_true rfl, Nat.le_of_ble_eq_true rfl⟩) (wPreS hP hD hK [] rfl rfl) rfl rfl hl.1 rfl (lv_room (Nat.le_of_ble_eq_true rfl)) dX5_findMeets_120 ⟨Nat.zero_le _, Nat.zero_le _⟩) hP hD hS hA [] [0, 1, 2, 3, 4, 5, 6, 7, 8, 9, 10, 11, 12] [0, 1, 2, 3, 4, 5, 6, 7, 8, 9, 10, 11, 12] rfl rfl rfl (by decide) rfl rfl (fun H locs hP hD hS => ?_)
          refine lv_iload_n hx hb dX5_findMeets_123 rfl (lv_at hl 2 rfl) ?_
          obtain ⟨u_660, hc_661, h⟩ := bd_inv h
          refine wafter_i (wr := (w_D G d0 d1 d2 d3 d4 d5 d6 d7 d8 d9 d10 d11 d12 d_n d_a d_b d_c d_k d_x d_y d_d d_r d_w d_e d_1 d_2 d_o d_g d_ra d_rb d_rc d_t)) (w2 := (w_D G d0 d1 d2 d3 d4 d5 d6 d7 d8 d9 d10 d11 d12 d_n d_a d_b d_c d_k d_x d_y d_d d_r d_w d_e d_1 d_2 d_o d_g d_ra d_rb d_rc d_t)) (va_runS (As := [.int x3_644]) (rest := [.int u_658]) ⟨hx, hb, hml, hown, hts⟩ (kX5_sign (l := l) (G := G)   x3_644 N u_660 hc_661 _) (va_cwS 1 hts gX5_findMeets_X5_sign rfl rfl rfl (by decide +kernel) ⟨Nat.le_of_ble_eq_true rfl, Nat.le_of_ble_eq_true rfl⟩) (wPreS hP hD hK [] rfl rfl) rfl rfl hl.1 rfl (lv_room (Nat.le_of_ble_eq_true rfl)) dX5_findMeets_124 ⟨Nat.zero_le _, Nat.zero_le _⟩) hP hD hS hA [] [0, 1, 2, 3, 4, 5, 6, 7, 8, 9, 10, 11, 12] [0, 1, 2, 3, 4, 5, 6, 7, 8, 9, 10, 11, 12] rfl rfl rfl (by decide) rfl rfl (fun H locs hP hD hS => ?_)
          refine lv_imul hx hb dX5_findMeets_127 ?_
          refine lv_istore (lv' := [(6, .int (u_658 * u_660)), (5, .int x5_655), (4, .int x4_650), (3, .int x3_644), (0, .ref d0), (1, .int x1), (2, .int x2)]) hx hb dX5_findMeets_128 hl (by decide) rfl (fun ls hl => ?_)
          refine lv_aload_n hx hb dX5_findMeets_130 rfl (lv_at hl 4 rfl) ?_
          refine lv_iload hx hb dX5_findMeets_131 (lv_at hl 2 rfl) ?_
          refine lv_iload hx hb dX5_findMeets_133 (lv_at hl 0 rfl) ?_
          obtain ⟨hz, h⟩ := nz_inv h
          refine lv_idiv hx hb dX5_findMeets_135 hz ?_
          refine lv_iload hx hb dX5_findMeets_136 (lv_at hl 1 rfl) ?_
          refine lv_iload hx hb dX5_findMeets_138 (lv_at hl 0 rfl) ?_
          obtain ⟨hz, h⟩ := nz_inv h
          refine lv_idiv hx hb dX5_findMeets_140 hz ?_
          refine lv_iload_n hx hb dX5_findMeets_141 rfl (lv_at hl 3 rfl) ?_
          refine lv_iload hx hb dX5_findMeets_142 (lv_at hl 0 rfl) ?_
          obtain ⟨hz, h⟩ := nz_inv h
          refine lv_idiv hx hb dX5_findMeets_144 hz ?_
          obtain ⟨u_662, hc_663, h⟩ := bd_inv h
          refine wafter_v (wr := []) (w2 := (w_D G d0 d1 d2 d3 d4 d5 d6 d7 d8 d9 d10 d11 d12 d_n d_a d_b d_c u_662.1 u_662.2.1 u_662.2.2.1 u_662.2.2.2 d_r d_w d_e d_1 d_2 d_o d_g d_ra d_rb d_rc d_t)) (va_runV (As := [.int (x4_650 / (u_658 * u_660)), .int (x5_655 / (u_658 * u_660)), .int (x3_644 / (u_658 * u_660))]) (rest := []) ⟨hx, hb, hml, hown, hts⟩ (kX5_keep (l := l) (G := G) d0 d1 d2 d3 d4 d5 d6 d7 d8 d9 d10 d11 d12 d_n d_a d_b d_c d_k d_x d_y d_d d_r d_w d_e d_1 d_2 d_o d_g d_ra d_rb d_rc d_t (x4_650 / (u_658 * u_660)) (x5_655 / (u_658 * u_660)) (x3_644 / (u_658 * u_660)) N u_662 hc_663 _) (cwV 3 hts gX5_findMeets_X5_keep rfl rfl rfl (by decide +kernel) ⟨Nat.le_of_ble_eq_true rfl, Nat.le_of_ble_eq_true rfl⟩) (wPreV hP hD hK [0, 1, 2, 3, 4, 5, 6, 7, 8, 9, 10, 11, 12] rfl rfl (ci := 5) (qb := 0) rfl rfl rfl) rfl rfl hl.1 rfl (lv_room (Nat.le_of_ble_eq_true rfl)) dX5_findMeets_145 ⟨Nat.zero_le _, Nat.zero_le _⟩) hP hD hS hA [0, 1, 2, 3, 4, 5, 6, 7, 8, 9, 10, 11, 12] [] [0, 1, 2, 3, 4, 5, 6, 7, 8, 9, 10, 11, 12] rfl rfl rfl (by decide) rfl rfl (fun H locs hP hD hS => ?_)
          refine lv_iinc (v := (x2 + 1)) (lv' := [(2, .int (x2 + 1)), (6, .int (u_658 * u_660)), (5, .int x5_655), (4, .int x4_650), (3, .int x3_644), (0, .ref d0), (1, .int x1)]) hx hb dX5_findMeets_148 hl (k := 6) rfl rfl (by decide) rfl (fun ls hl => ?_)
          refine lv_goto (tgt := 17) hx hb dX5_findMeets_151 (by decide) ?_
          exact ih _ _ _ _ _ _ _ _ hP hD hS (lv_sub hl [5, 6, 0] rfl) h
  have w_7 : ∀   (_z : Unit), ∀ (n : Nat) (x1 : Int32) (d_k : Int32) (d_x : Nat → Int32) (d_y : Nat → Int32) (d_d : Nat → Int32) (H : Heap) (locs : List Loc) (ls : Array Slot), va_P G.1 vwCl (w_D G d0 d1 d2 d3 d4 d5 d6 d7 d8 d9 d10 d11 d12 d_n d_a d_b d_c d_k d_x d_y d_d d_r d_w d_e d_1 d_2 d_o d_g d_ra d_rb d_rc d_t) H → va_D A (w_D G d0 d1 d2 d3 d4 d5 d6 d7 d8 d9 d10 d11 d12 d_n d_a d_b d_c d_k d_x d_y d_d d_r d_w d_e d_1 d_2 d_o d_g d_ra d_rb d_rc d_t) → va_S A s.heap H locs → lv_has ls 7 [(0, .ref d0), (1, .int x1)] → fX5_findMeets_b7 N d_n d_a d_b d_c n x1 d_k d_x d_y d_d = some v → W p l e ({ frames := 2, cells := 0, slots := 0, locals := 48 } : Room) s m args below meth c H locs 0 0 (wQv G A below args s (w_D G d0 d1 d2 d3 d4 d5 d6 d7 d8 d9 d10 d11 d12 d_n d_a d_b d_c v.1 v.2.1 v.2.2.1 v.2.2.2 d_r d_w d_e d_1 d_2 d_o d_g d_ra d_rb d_rc d_t) 0 0) (F0 m 7 ls []) := by
    intro _z n
    induction n with
    | zero =>
      intro x1 d_k d_x d_y d_d H locs ls hP hD hS hl h
      rw [fX5_findMeets_b7.eq_1] at h
      cases h
    | succ n ih =>
      intro x1 d_k d_x d_y d_d H locs ls hP hD hS hl h
      rw [fX5_findMeets_b7.eq_2] at h
      refine lv_iload_n hx hb dX5_findMeets_7 rfl (lv_at hl 1 rfl) ?_
      refine lv_aload_n hx hb dX5_findMeets_8 rfl (lv_at hl 0 rfl) ?_
      refine va_get (D := G.1) (ci := 5) (v := .int d_n) (C := RX5) (T := TX5) (N := 19) hx hb hts hinX5 hown hK.1 hP 0 rfl rfl 0 (by decide) lk51 (fun _ h9 => h9) rfl dX5_findMeets_9 ?_
      refine lv_icmp_ge (tgt := 160) hx hb dX5_findMeets_12 (by decide) (fun c_664 => ?_) (fun c_664 => ?_)
      · have h := ip c_664 h
        obtain rfl := Option.some.inj h
        exact wrv hx hb hr hlocks hP hD hS (Nat.le_of_ble_eq_true rfl) (Nat.le_of_ble_eq_true rfl) dX5_findMeets_160
      · have h := iq c_664 h
        refine lv_iconst (v := 0) hx hb dX5_findMeets_15 (by decide) ?_
        refine lv_istore_n (lv' := [(2, .int 0), (0, .ref d0), (1, .int x1)]) hx hb dX5_findMeets_16 rfl hl (by decide) rfl (fun ls hl => ?_)
        refine w_17 _ _  () (fun d_k_665 d_x_666 d_y_667 d_d_668 H locs ls hP hD hS hl h => ?_) N _ _ _ _ _ _ _ _ hP hD hS (lv_sub hl [1, 2, 0] rfl) h
        refine lv_iinc (v := (x1 + 1)) (lv' := [(1, .int (x1 + 1)), (0, .ref d0)]) hx hb dX5_findMeets_154 hl (k := 1) rfl rfl (by decide) rfl (fun ls hl => ?_)
        refine lv_goto (tgt := 7) hx hb dX5_findMeets_157 (by decide) ?_
        exact ih _ _ _ _ _ _ _ _ hP hD hS (lv_sub hl [1, 0] rfl) h
  rw [fX5_findMeets.eq_1] at h
  refine lv_aload_n hx hb dX5_findMeets_0 rfl (lv_at hl 0 rfl) ?_
  refine lv_iconst (v := 0) hx hb dX5_findMeets_1 (by decide) ?_
  refine va_put (D := G.1) (ci := 5) (v := .int 0) (ty := .int) (C := RX5) (T := TX5) (N := 19) hx hb hts hinX5 tyX5 tyX5_ok nmX5 hown hK.1 hP hD hS 0 rfl rfl 4 (by decide) lk78 (fun _ h9 => h9) rfl (by decide +kernel) rfl rfl (Nat.le_of_ble_eq_true rfl) dX5_findMeets_2 (fun H locs hP hD hS => ?_)
  have hP : va_P G.1 vwCl (w_D G d0 d1 d2 d3 d4 d5 d6 d7 d8 d9 d10 d11 d12 d_n d_a d_b d_c 0 d_x d_y d_d d_r d_w d_e d_1 d_2 d_o d_g d_ra d_rb d_rc d_t) H := hP
  have hD : va_D A (w_D G d0 d1 d2 d3 d4 d5 d6 d7 d8 d9 d10 d11 d12 d_n d_a d_b d_c 0 d_x d_y d_d d_r d_w d_e d_1 d_2 d_o d_g d_ra d_rb d_rc d_t) := hD
  refine lv_iconst (v := 0) hx hb dX5_findMeets_5 (by decide) ?_
  refine lv_istore_n (lv' := [(1, .int 0), (0, .ref d0)]) hx hb dX5_findMeets_6 rfl hl (by decide) rfl (fun ls hl => ?_)
  exact w_7    ()  N _ _ _ _ _ _ _ _ hP hD hS (lv_sub hl [1, 0] rfl) h
def fX5_through_b4 (N : Nat) (d_n : Int32) (d_a : Nat → Int32) (d_b : Nat → Int32) (d_c : Nat → Int32) (d_x : Nat → Int32) (d_y : Nat → Int32) (d_d : Nat → Int32) (x1 : Int32) : Nat → Int32 → Int32 → Option (Int32)
  | 0, _, _ => none
  | n + 1, x2, x3 => if d_n ≤ x3 then some x2 else bd (fX5_side N d_a d_b d_c d_x d_y d_d x3 x1) (fun u_670 => if u_670 = 0 then nm (x2 ||| (1 <<< (x3 &&& 31))) (fun x2_673 => fX5_through_b4 N d_n d_a d_b d_c d_x d_y d_d x1 n x2_673 (x3 + 1)) else fX5_through_b4 N d_n d_a d_b d_c d_x d_y d_d x1 n (x2 ||| 0) (x3 + 1))
def fX5_through (N : Nat) (d_n : Int32) (d_a : Nat → Int32) (d_b : Nat → Int32) (d_c : Nat → Int32) (d_x : Nat → Int32) (d_y : Nat → Int32) (d_d : Nat → Int32) (x1 : Int32) : Option (Int32) := fX5_through_b4 N d_n d_a d_b d_c d_x d_y d_d x1 N 0 0
set_option maxHeartbeats 4000000 in
set_option maxRecDepth 100000 in
theorem kX5_through {l : Launch} {G : wG} (d0 d1 d2 d3 d4 d5 d6 d7 d8 d9 d10 d11 d12 : Nat) (d_n : Int32) (d_a : Nat → Int32) (d_b : Nat → Int32) (d_c : Nat → Int32) (d_k : Int32) (d_x : Nat → Int32) (d_y : Nat → Int32) (d_d : Nat → Int32) (d_r : Nat → Int32) (d_w : Nat → Int32) (d_e : Int32) (d_1 : Nat → Int32) (d_2 : Nat → Int32) (d_o : Nat → Int32) (d_g : Nat → Int32) (d_ra : Int32) (d_rb : Int32) (d_rc : Int32) (d_t : Int32) (x1 : Int32) (N : Nat) (v : Int32) (h : fX5_through N d_n d_a d_b d_c d_x d_y d_d x1 = some v) : wCi l G yX5_through wsX5_through ({ frames := 2, cells := 0, slots := 0, locals := 42 } : Room) [.ref d0, .int x1] (w_D G d0 d1 d2 d3 d4 d5 d6 d7 d8 d9 d10 d11 d12 d_n d_a d_b d_c d_k d_x d_y d_d d_r d_w d_e d_1 d_2 d_o d_g d_ra d_rb d_rc d_t) (w_D G d0 d1 d2 d3 d4 d5 d6 d7 d8 d9 d10 d11 d12 d_n d_a d_b d_c d_k d_x d_y d_d d_r d_w d_e d_1 d_2 d_o d_g d_ra d_rb d_rc d_t) 0 0 v := by
  refine wCi.mk (cc := cX5_through) (maxL := 4) (ty := .int) (by decide) rfl (Nat.le_of_ble_eq_true rfl) ?_
  intro p e s m below meth c A ls hx hb hml hr hlocks hts hown hK hA hP hD hl
  have hx : p.tables.exec = Jvm.exec := hx
  have hown : s.vm.findClass RX5 = some m.cls := hown
  have hinX5 : ∀ w ∈ wsX50, w ∈ wsX5_through := by decide +kernel
  have lk51 := hts (.fieldLink RX5 51 "ChamberwrightModel" "lines" "I") (by decide +kernel)
  have hS : va_S A s.heap s.heap [] := va_S.rf
  have hP : va_P G.1 vwCl (w_D G d0 d1 d2 d3 d4 d5 d6 d7 d8 d9 d10 d11 d12 d_n d_a d_b d_c d_k d_x d_y d_d d_r d_w d_e d_1 d_2 d_o d_g d_ra d_rb d_rc d_t) s.heap := hP
  have hD : va_D A (w_D G d0 d1 d2 d3 d4 d5 d6 d7 d8 d9 d10 d11 d12 d_n d_a d_b d_c d_k d_x d_y d_d d_r d_w d_e d_1 d_2 d_o d_g d_ra d_rb d_rc d_t) := hD
  have hl : lv_has ls 4 [(0, .ref d0), (1, .int x1)] := hl
  obtain ⟨args, hargs⟩ : ∃ z : Array Value, z = ([.ref d0, .int x1] : List Value).toArray := ⟨_, rfl⟩
  rw [← hargs]
  rw [← hargs] at hts
  have w_4 : ∀ (x1 : Int32)  (_z : Unit), ∀ (n : Nat) (x2 : Int32) (x3 : Int32)  (H : Heap) (locs : List Loc) (ls : Array Slot), va_P G.1 vwCl (w_D G d0 d1 d2 d3 d4 d5 d6 d7 d8 d9 d10 d11 d12 d_n d_a d_b d_c d_k d_x d_y d_d d_r d_w d_e d_1 d_2 d_o d_g d_ra d_rb d_rc d_t) H → va_D A (w_D G d0 d1 d2 d3 d4 d5 d6 d7 d8 d9 d10 d11 d12 d_n d_a d_b d_c d_k d_x d_y d_d d_r d_w d_e d_1 d_2 d_o d_g d_ra d_rb d_rc d_t) → va_S A s.heap H locs → lv_has ls 4 [(0, .ref d0), (1, .int x1), (2, .int x2), (3, .int x3)] → fX5_through_b4 N d_n d_a d_b d_c d_x d_y d_d x1 n x2 x3 = some v → W p l e ({ frames := 2, cells := 0, slots := 0, locals := 42 } : Room) s m args below meth c H locs 0 0 (wQi G A below args s (w_D G d0 d1 d2 d3 d4 d5 d6 d7 d8 d9 d10 d11 d12 d_n d_a d_b d_c d_k d_x d_y d_d d_r d_w d_e d_1 d_2 d_o d_g d_ra d_rb d_rc d_t) 0 0 v) (F0 m 4 ls []) := by
    intro x1 _z n
    induction n with
    | zero =>
      intro x2 x3 H locs ls hP hD hS hl h
      rw [fX5_through_b4.eq_1] at h
      cases h
    | succ n ih =>
      intro x2 x3 H locs ls hP hD hS hl h
      rw [fX5_through_b4.eq_2] at h
      refine lv_iload_n hx hb dX5_through_4 rfl (lv_at hl 3 rfl) ?_
      refine lv_aload_n hx hb dX5_through_5 rfl (lv_at hl 0 rfl) ?_
      refine va_get (D := G.1) (ci := 5) (v := .int d_n) (C := RX5) (T := TX5) (N := 19) hx hb hts hinX5 hown hK.1 hP 0 rfl rfl 0 (by decide) lk51 (fun _ h9 => h9) rfl dX5_through_6 ?_
      refine lv_icmp_ge (tgt := 37) hx hb dX5_through_9 (by decide) (fun c_669 => ?_) (fun c_669 => ?_)
      · have h := ip c_669 h
        refine lv_iload_n hx hb dX5_through_37 rfl (lv_at hl 2 rfl) ?_
        obtain rfl := Option.some.inj h
        exact wri hx hb hr hlocks hP hD hS (Nat.le_of_ble_eq_true rfl) (Nat.le_of_ble_eq_true rfl) rfl dX5_through_38
      · have h := iq c_669 h
        refine lv_iload_n hx hb dX5_through_12 rfl (lv_at hl 2 rfl) ?_
        refine lv_aload_n hx hb dX5_through_13 rfl (lv_at hl 0 rfl) ?_
        refine lv_iload_n hx hb dX5_through_14 rfl (lv_at hl 3 rfl) ?_
        refine lv_iload_n hx hb dX5_through_15 rfl (lv_at hl 1 rfl) ?_
        obtain ⟨u_670, hc_671, h⟩ := bd_inv h
        refine wafter_i (wr := []) (w2 := (w_D G d0 d1 d2 d3 d4 d5 d6 d7 d8 d9 d10 d11 d12 d_n d_a d_b d_c d_k d_x d_y d_d d_r d_w d_e d_1 d_2 d_o d_g d_ra d_rb d_rc d_t)) (va_runV (As := [.int x3, .int x1]) (rest := [.int x2]) ⟨hx, hb, hml, hown, hts⟩ (kX5_side (l := l) (G := G) d0 d1 d2 d3 d4 d5 d6 d7 d8 d9 d10 d11 d12 d_n d_a d_b d_c d_k d_x d_y d_d d_r d_w d_e d_1 d_2 d_o d_g d_ra d_rb d_rc d_t x3 x1 N u_670 hc_671 _) (cwV 2 hts gX5_through_X5_side rfl rfl rfl (by decide +kernel) ⟨Nat.le_of_ble_eq_true rfl, Nat.le_of_ble_eq_true rfl⟩) (wPreV hP hD hK [0, 1, 2, 3, 4, 5, 6, 7, 8, 9, 10, 11, 12] rfl rfl (ci := 5) (qb := 0) rfl rfl rfl) rfl rfl hl.1 rfl (lv_room (Nat.le_of_ble_eq_true rfl)) dX5_through_16 ⟨Nat.zero_le _, Nat.zero_le _⟩) hP hD hS hA [0, 1, 2, 3, 4, 5, 6, 7, 8, 9, 10, 11, 12] [] [0, 1, 2, 3, 4, 5, 6, 7, 8, 9, 10, 11, 12] rfl rfl rfl (by decide) rfl rfl (fun H locs hP hD hS => ?_)
        refine lv_if_ne (tgt := 28) hx hb dX5_through_19 (by decide) (fun c_672 => ?_) (fun c_672 => ?_)
        · have h := iq c_672 h
          refine lv_iconst (v := 0) hx hb dX5_through_28 (by decide) ?_
          refine lv_ior hx hb dX5_through_29 ?_
          refine lv_istore_n (lv' := [(2, .int (x2 ||| 0)), (0, .ref d0), (1, .int x1), (3, .int x3)]) hx hb dX5_through_30 rfl hl (by decide) rfl (fun ls hl => ?_)
          refine lv_iinc (v := (x3 + 1)) (lv' := [(3, .int (x3 + 1)), (2, .int (x2 ||| 0)), (0, .ref d0), (1, .int x1)]) hx hb dX5_through_31 hl (k := 3) rfl rfl (by decide) rfl (fun ls hl => ?_)
          refine lv_goto (tgt := 4) hx hb dX5_through_34 (by decide) ?_
          exact ih _ _ _ _ _ hP hD hS (lv_sub hl [2, 3, 1, 0] rfl) h
        · have h := ip c_672 h
          refine lv_iconst (v := 1) hx hb dX5_through_22 (by decide) ?_
          refine lv_iload_n hx hb dX5_through_23 rfl (lv_at hl 3 rfl) ?_
          refine lv_ishl hx hb dX5_through_24 ?_
          refine lv_goto (tgt := 29) hx hb dX5_through_25 (by decide) ?_
          refine lv_ior hx hb dX5_through_29 ?_
          refine wnmi h (fun x2_673 h => ?_)
          refine lv_istore_n (lv' := [(2, .int x2_673), (0, .ref d0), (1, .int x1), (3, .int x3)]) hx hb dX5_through_30 rfl hl (by decide) rfl (fun ls hl => ?_)
          refine lv_iinc (v := (x3 + 1)) (lv' := [(3, .int (x3 + 1)), (2, .int x2_673), (0, .ref d0), (1, .int x1)]) hx hb dX5_through_31 hl (k := 3) rfl rfl (by decide) rfl (fun ls hl => ?_)
          refine lv_goto (tgt := 4) hx hb dX5_through_34 (by decide) ?_
          exact ih _ _ _ _ _ hP hD hS (lv_sub hl [2, 3, 1, 0] rfl) h
  rw [fX5_through.eq_1] at h
  refine lv_iconst (v := 0) hx hb dX5_through_0 (by decide) ?_
  refine lv_istore_n (lv' := [(2, .int 0), (0, .ref d0), (1, .int x1)]) hx hb dX5_through_1 rfl hl (by decide) rfl (fun ls hl => ?_)
  refine lv_iconst (v := 0) hx hb dX5_through_2 (by decide) ?_
  refine lv_istore_n (lv' := [(3, .int 0), (2, .int 0), (0, .ref d0), (1, .int x1)]) hx hb dX5_through_3 rfl hl (by decide) rfl (fun ls hl => ?_)
  exact w_4  _  ()  N _ _  _ _ _ hP hD hS (lv_sub hl [2, 3, 1, 0] rfl) h
