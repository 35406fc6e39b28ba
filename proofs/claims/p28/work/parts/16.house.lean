theorem bdx_n {α β : Type} {x : Option (String ⊕ β)} {k : β → Option (String ⊕ α)} {r : α} (h : bdx x k = some (.inr r)) : ∃ y, x = some (.inr y) ∧ k y = some (.inr r) := by
  cases x with
  | none => cases h
  | some y => cases y with
    | inl e => cases h
    | inr z => exact ⟨z, rfl, h⟩
def fX4_isTooFar (N : Nat) (x0 : Int32) : Option (Int32) := if x0 < (-9) then zo 1 (some 1) else if x0 ≤ 9 then zo 0 (some 0) else zo 1 (some 1)
set_option maxHeartbeats 4000000 in
set_option maxRecDepth 100000 in
theorem kX4_isTooFar {l : Launch} {G : wG} (x0 : Int32) (N : Nat) (v : Int32) (h : fX4_isTooFar N x0 = some v) : wCi l G yX4_isTooFar wsX4_isTooFar ({ frames := 0, cells := 0, slots := 0, locals := 0 } : Room) [.int x0] [] [] 0 0 v := by
  refine wCi.mk (cc := cX4_isTooFar) (maxL := 1) (ty := .boolean) (by decide) rfl (Nat.le_of_ble_eq_true rfl) ?_
  intro p e s m below meth c A ls hx hb hml hr hlocks hts hown hK hA hP hD hl
  have hx : p.tables.exec = Jvm.exec := hx
  have hown : s.vm.findClass RX4 = some m.cls := hown
  have hS : va_S A s.heap s.heap [] := va_S.rf
  have hP : va_P G.1 vwCl [] s.heap := hP
  have hD : va_D A [] := hD
  have hl : lv_has ls 1 [(0, .int x0)] := hl
  obtain ⟨args, hargs⟩ : ∃ z : Array Value, z = ([.int x0] : List Value).toArray := ⟨_, rfl⟩
  rw [← hargs]
  rw [← hargs] at hts
  rw [fX4_isTooFar.eq_1] at h
  refine lv_iload_n hx hb dX4_isTooFar_0 rfl (lv_at hl 0 rfl) ?_
  refine lv_bipush (v := (-9)) hx hb dX4_isTooFar_1 (by decide) ?_
  refine lv_icmp_lt (tgt := 12) hx hb dX4_isTooFar_3 (by decide) (fun c_538 => ?_) (fun c_538 => ?_)
  · have h := ip c_538 h
    refine lv_iconst (v := 1) hx hb dX4_isTooFar_12 (by decide) ?_
    refine lv_goto (tgt := 17) hx hb dX4_isTooFar_13 (by decide) ?_
    obtain ⟨hz, h⟩ := zo_inv h
    obtain rfl := Option.some.inj h
    exact wrz hx hb hr hlocks hP hD hS (Nat.le_of_ble_eq_true rfl) (Nat.le_of_ble_eq_true rfl) hz rfl dX4_isTooFar_17
  · have h := iq c_538 h
    refine lv_iload_n hx hb dX4_isTooFar_6 rfl (lv_at hl 0 rfl) ?_
    refine lv_bipush (v := 9) hx hb dX4_isTooFar_7 (by decide) ?_
    refine lv_icmp_le (tgt := 16) hx hb dX4_isTooFar_9 (by decide) (fun c_539 => ?_) (fun c_539 => ?_)
    · have h := ip c_539 h
      refine lv_iconst (v := 0) hx hb dX4_isTooFar_16 (by decide) ?_
      obtain ⟨hz, h⟩ := zo_inv h
      obtain rfl := Option.some.inj h
      exact wrz hx hb hr hlocks hP hD hS (Nat.le_of_ble_eq_true rfl) (Nat.le_of_ble_eq_true rfl) hz rfl dX4_isTooFar_17
    · have h := iq c_539 h
      refine lv_iconst (v := 1) hx hb dX4_isTooFar_12 (by decide) ?_
      refine lv_goto (tgt := 17) hx hb dX4_isTooFar_13 (by decide) ?_
      obtain ⟨hz, h⟩ := zo_inv h
      obtain rfl := Option.some.inj h
      exact wrz hx hb hr hlocks hP hD hS (Nat.le_of_ble_eq_true rfl) (Nat.le_of_ble_eq_true rfl) hz rfl dX4_isTooFar_17
def fX4_lookAnew (N : Nat) (l_a : Nat → Int32) (l_b : Nat → Int32) (l_c : Nat → Int32) (l_n : Int32) (m_x : Nat → Int32) (m_y : Nat → Int32) (m_d : Nat → Int32) (m_t : Nat → Int32) (m_v : Nat → Int32) (m_n : Int32) (r_s : Nat → Int32) (r_n : Nat → Int32) (r_k : Int32) : Option ((Nat → Int32) × (Nat → Int32) × (Nat → Int32) × (Nat → Int32) × (Nat → Int32) × Int32 × (Nat → Int32) × (Nat → Int32) × Int32) := bd (fX2_find N l_a l_b l_c l_n m_x m_y m_d m_t m_v m_n) (fun u_540 => bd (fX3_find N l_a l_b l_c l_n u_540.1 u_540.2.1 u_540.2.2.1 u_540.2.2.2.1 u_540.2.2.2.2.2 r_s r_n r_k) (fun u_542 => some (u_540.1, u_540.2.1, u_540.2.2.1, u_540.2.2.2.1, u_540.2.2.2.2.1, u_540.2.2.2.2.2, u_542.1, u_542.2.1, u_542.2.2)))
set_option maxHeartbeats 4000000 in
set_option maxRecDepth 100000 in
theorem kX4_lookAnew {l : Launch} {G : wG} (c0 l0 l1 l2 l3 m0 m1 m2 m3 m4 m5 r0 r1 r2 r3 g0 : Nat) (g_e : Int64) (l_a : Nat → Int32) (l_b : Nat → Int32) (l_c : Nat → Int32) (l_n : Int32) (m_x : Nat → Int32) (m_y : Nat → Int32) (m_d : Nat → Int32) (m_t : Nat → Int32) (m_v : Nat → Int32) (m_n : Int32) (r_s : Nat → Int32) (r_n : Nat → Int32) (r_w : Nat → Int32) (r_k : Int32) (N : Nat) (v : (Nat → Int32) × (Nat → Int32) × (Nat → Int32) × (Nat → Int32) × (Nat → Int32) × Int32 × (Nat → Int32) × (Nat → Int32) × Int32) (h : fX4_lookAnew N l_a l_b l_c l_n m_x m_y m_d m_t m_v m_n r_s r_n r_k = some v) : wCv l G yX4_lookAnew wsX4_lookAnew ({ frames := 5, cells := 0, slots := 0, locals := 128 } : Room) [.ref c0] (w_C G c0 l0 l1 l2 l3 m0 m1 m2 m3 m4 m5 r0 r1 r2 r3 g0 g_e l_a l_b l_c l_n m_x m_y m_d m_t m_v m_n r_s r_n r_w r_k) (w_C G c0 l0 l1 l2 l3 m0 m1 m2 m3 m4 m5 r0 r1 r2 r3 g0 g_e l_a l_b l_c l_n v.1 v.2.1 v.2.2.1 v.2.2.2.1 v.2.2.2.2.1 v.2.2.2.2.2.1 v.2.2.2.2.2.2.1 v.2.2.2.2.2.2.2.1 r_w v.2.2.2.2.2.2.2.2) 0 0 := by
  refine wCv.mk (cc := cX4_lookAnew) (maxL := 1) (by decide) rfl (Nat.le_of_ble_eq_true rfl) ?_
  intro p e s m below meth c A ls hx hb hml hr hlocks hts hown hK hA hP hD hl
  have hx : p.tables.exec = Jvm.exec := hx
  have hown : s.vm.findClass RX4 = some m.cls := hown
  have hinX4 : ∀ w ∈ wsX40, w ∈ wsX4_lookAnew := by decide +kernel
  have lk10 := hts (.fieldLink RX4 10 "Chamberwright" "lines" "LChamberwright$Lines;") (by decide +kernel)
  have lk19 := hts (.fieldLink RX4 19 "Chamberwright" "meets" "LChamberwright$Meets;") (by decide +kernel)
  have lk26 := hts (.fieldLink RX4 26 "Chamberwright" "rooms" "LChamberwright$Rooms;") (by decide +kernel)
  have hS : va_S A s.heap s.heap [] := va_S.rf
  have hP : va_P G.1 vwCl (w_C G c0 l0 l1 l2 l3 m0 m1 m2 m3 m4 m5 r0 r1 r2 r3 g0 g_e l_a l_b l_c l_n m_x m_y m_d m_t m_v m_n r_s r_n r_w r_k) s.heap := hP
  have hD : va_D A (w_C G c0 l0 l1 l2 l3 m0 m1 m2 m3 m4 m5 r0 r1 r2 r3 g0 g_e l_a l_b l_c l_n m_x m_y m_d m_t m_v m_n r_s r_n r_w r_k) := hD
  have hl : lv_has ls 1 [(0, .ref c0)] := hl
  obtain ⟨args, hargs⟩ : ∃ z : Array Value, z = ([.ref c0] : List Value).toArray := ⟨_, rfl⟩
  rw [← hargs]
  rw [← hargs] at hts
  rw [fX4_lookAnew.eq_1] at h
  refine lv_aload_n hx hb dX4_lookAnew_0 rfl (lv_at hl 0 rfl) ?_
  refine va_get (D := G.1) (ci := 4) (v := .ref m0) (C := RX4) (T := TX4) (N := 4) hx hb hts hinX4 hown hK.1 hP 0 rfl rfl 1 (by decide) lk19 (fun _ h9 => h9) rfl dX4_lookAnew_1 ?_
  refine lv_aload_n hx hb dX4_lookAnew_4 rfl (lv_at hl 0 rfl) ?_
  refine va_get (D := G.1) (ci := 4) (v := .ref l0) (C := RX4) (T := TX4) (N := 4) hx hb hts hinX4 hown hK.1 hP 0 rfl rfl 0 (by decide) lk10 (fun _ h9 => h9) rfl dX4_lookAnew_5 ?_
  obtain ⟨u_540, hc_541, h⟩ := bd_inv h
  refine wafter_v (wr := [(c0, .inr (4, [.ref l0, .ref m0, .ref r0, .ref g0])), (r0, .inr (3, [.ref r1, .ref r2, .ref r3, .int r_k])), (r1, .inl (G.2.1, 46, .inl r_s)), (r2, .inl (G.2.1, 512, .inl r_n)), (r3, .inl (G.2.1, 512, .inl r_w)), (g0, .inr (0, [.long g_e]))]) (w2 := (w_C G c0 l0 l1 l2 l3 m0 m1 m2 m3 m4 m5 r0 r1 r2 r3 g0 g_e l_a l_b l_c l_n u_540.1 u_540.2.1 u_540.2.2.1 u_540.2.2.2.1 u_540.2.2.2.2.1 u_540.2.2.2.2.2 r_s r_n r_w r_k)) (va_runV (As := [.ref l0]) (rest := []) ⟨hx, hb, hml, hown, hts⟩ (kX2_find (l := l) (G := G) m0 m1 m2 m3 m4 m5 l0 l1 l2 l3 l_a l_b l_c l_n m_x m_y m_d m_t m_v m_n  N u_540 hc_541 _) (cwV 1 hts gX4_lookAnew_X2_find rfl rfl rfl (by decide +kernel) ⟨Nat.le_of_ble_eq_true rfl, Nat.le_of_ble_eq_true rfl⟩) (wPreV hP hD hK [5, 6, 7, 8, 9, 10, 1, 2, 3, 4] rfl rfl (ci := 2) (qb := 5) rfl rfl rfl) rfl rfl hl.1 rfl (lv_room (Nat.le_of_ble_eq_true rfl)) dX4_lookAnew_8 ⟨Nat.zero_le _, Nat.zero_le _⟩) hP hD hS hA [5, 6, 7, 8, 9, 10, 1, 2, 3, 4] [0, 11, 12, 13, 14, 15] [0, 12, 13, 14, 15, 6, 7, 8, 9, 10, 11, 1, 2, 3, 4, 5] rfl rfl rfl (by decide) rfl rfl (fun H locs hP hD hS => ?_)
  refine lv_aload_n hx hb dX4_lookAnew_11 rfl (lv_at hl 0 rfl) ?_
  refine va_get (D := G.1) (ci := 4) (v := .ref r0) (C := RX4) (T := TX4) (N := 4) hx hb hts hinX4 hown hK.1 hP 0 rfl rfl 2 (by decide) lk26 (fun _ h9 => h9) rfl dX4_lookAnew_12 ?_
  refine lv_aload_n hx hb dX4_lookAnew_15 rfl (lv_at hl 0 rfl) ?_
  refine va_get (D := G.1) (ci := 4) (v := .ref l0) (C := RX4) (T := TX4) (N := 4) hx hb hts hinX4 hown hK.1 hP 0 rfl rfl 0 (by decide) lk10 (fun _ h9 => h9) rfl dX4_lookAnew_16 ?_
  refine lv_aload_n hx hb dX4_lookAnew_19 rfl (lv_at hl 0 rfl) ?_
  refine va_get (D := G.1) (ci := 4) (v := .ref m0) (C := RX4) (T := TX4) (N := 4) hx hb hts hinX4 hown hK.1 hP 0 rfl rfl 1 (by decide) lk19 (fun _ h9 => h9) rfl dX4_lookAnew_20 ?_
  obtain ⟨u_542, hc_543, h⟩ := bd_inv h
  refine wafter_v (wr := [(c0, .inr (4, [.ref l0, .ref m0, .ref r0, .ref g0])), (g0, .inr (0, [.long g_e]))]) (w2 := (w_C G c0 l0 l1 l2 l3 m0 m1 m2 m3 m4 m5 r0 r1 r2 r3 g0 g_e l_a l_b l_c l_n u_540.1 u_540.2.1 u_540.2.2.1 u_540.2.2.2.1 u_540.2.2.2.2.1 u_540.2.2.2.2.2 u_542.1 u_542.2.1 r_w u_542.2.2)) (va_runV (As := [.ref l0, .ref m0]) (rest := []) ⟨hx, hb, hml, hown, hts⟩ (kX3_find (l := l) (G := G) r0 r1 r2 r3 l0 l1 l2 l3 m0 m1 m2 m3 m4 m5 l_a l_b l_c l_n u_540.1 u_540.2.1 u_540.2.2.1 u_540.2.2.2.1 u_540.2.2.2.2.1 u_540.2.2.2.2.2 r_s r_n r_w r_k  N u_542 hc_543 _) (cwV 2 hts gX4_lookAnew_X3_find rfl rfl rfl (by decide +kernel) ⟨Nat.le_of_ble_eq_true rfl, Nat.le_of_ble_eq_true rfl⟩) (wPreV hP hD hK [11, 12, 13, 14, 1, 2, 3, 4, 5, 6, 7, 8, 9, 10] rfl rfl (ci := 3) (qb := 11) rfl rfl rfl) rfl rfl hl.1 rfl (lv_room (Nat.le_of_ble_eq_true rfl)) dX4_lookAnew_23 ⟨Nat.zero_le _, Nat.zero_le _⟩) hP hD hS hA [11, 12, 13, 14, 1, 2, 3, 4, 5, 6, 7, 8, 9, 10] [0, 15] [0, 6, 7, 8, 9, 10, 11, 12, 13, 14, 15, 2, 3, 4, 5, 1] rfl rfl rfl (by decide) rfl rfl (fun H locs hP hD hS => ?_)
  obtain rfl := Option.some.inj h
  exact wrv hx hb hr hlocks hP hD hS (Nat.le_of_ble_eq_true rfl) (Nat.le_of_ble_eq_true rfl) dX4_lookAnew_26
def fX4_line_b39 (N : Nat) (x1 : Int32) (x2 : Int32) (x3 : Int32) (l_a : Nat → Int32) (l_b : Nat → Int32) (l_c : Nat → Int32) (l_n : Int32) (m_x : Nat → Int32) (m_y : Nat → Int32) (m_d : Nat → Int32) (m_t : Nat → Int32) (m_v : Nat → Int32) (m_n : Int32) (r_s : Nat → Int32) (r_n : Nat → Int32) (r_k : Int32) : Option (String ⊕ (Int32 × (Nat → Int32) × (Nat → Int32) × (Nat → Int32) × Int32 × (Nat → Int32) × (Nat → Int32) × (Nat → Int32) × (Nat → Int32) × (Nat → Int32) × Int32 × (Nat → Int32) × (Nat → Int32) × Int32)) := bd (fX1_isFull N l_n) (fun u_544 => if u_544 = 0 then bd (fX1_numberOf N l_a l_b l_c l_n x1 x2 x3) (fun u_547 => if u_547 = (-1) then bd (fX1_append N l_a l_b l_c l_n x1 x2 x3) (fun u_550 => bd (fX4_lookAnew N u_550.1 u_550.2.1 u_550.2.2.1 u_550.2.2.2 m_x m_y m_d m_t m_v m_n r_s r_n r_k) (fun u_552 => bd (fX1_count N u_550.2.2.2) (fun u_554 => some (.inr ((u_554 - 1), u_550.1, u_550.2.1, u_550.2.2.1, u_550.2.2.2, u_552.1, u_552.2.1, u_552.2.2.1, u_552.2.2.2.1, u_552.2.2.2.2.1, u_552.2.2.2.2.2.1, u_552.2.2.2.2.2.2.1, u_552.2.2.2.2.2.2.2.1, u_552.2.2.2.2.2.2.2.2))))) else some (.inl xISE)) else some (.inl xISE))
def fX4_line (N : Nat) (l_a : Nat → Int32) (l_b : Nat → Int32) (l_c : Nat → Int32) (l_n : Int32) (m_x : Nat → Int32) (m_y : Nat → Int32) (m_d : Nat → Int32) (m_t : Nat → Int32) (m_v : Nat → Int32) (m_n : Int32) (r_s : Nat → Int32) (r_n : Nat → Int32) (r_k : Int32) (x1 : Int32) (x2 : Int32) (x3 : Int32) : Option (String ⊕ (Int32 × (Nat → Int32) × (Nat → Int32) × (Nat → Int32) × Int32 × (Nat → Int32) × (Nat → Int32) × (Nat → Int32) × (Nat → Int32) × (Nat → Int32) × Int32 × (Nat → Int32) × (Nat → Int32) × Int32)) := bd (fX4_isTooFar N x1) (fun u_556 => if u_556 = 0 then bd (fX4_isTooFar N x2) (fun u_559 => if u_559 = 0 then bd (fX4_isTooFar N x3) (fun u_562 => if u_562 = 0 then if x1 = 0 then if x2 = 0 then some (.inl xIAE) else fX4_line_b39 N x1 x2 x3 l_a l_b l_c l_n m_x m_y m_d m_t m_v m_n r_s r_n r_k else fX4_line_b39 N x1 x2 x3 l_a l_b l_c l_n m_x m_y m_d m_t m_v m_n r_s r_n r_k else some (.inl xIAE)) else some (.inl xIAE)) else some (.inl xIAE))
set_option maxHeartbeats 4000000 in
set_option maxRecDepth 100000 in
theorem kX4_line {l : Launch} (hst : l.stackTraces = false) {G : wG} (c0 l0 l1 l2 l3 m0 m1 m2 m3 m4 m5 r0 r1 r2 r3 g0 : Nat) (g_e : Int64) (l_a : Nat → Int32) (l_b : Nat → Int32) (l_c : Nat → Int32) (l_n : Int32) (m_x : Nat → Int32) (m_y : Nat → Int32) (m_d : Nat → Int32) (m_t : Nat → Int32) (m_v : Nat → Int32) (m_n : Int32) (r_s : Nat → Int32) (r_n : Nat → Int32) (r_w : Nat → Int32) (r_k : Int32) (x1 : Int32) (x2 : Int32) (x3 : Int32) (N : Nat) (v : String ⊕ (Int32 × (Nat → Int32) × (Nat → Int32) × (Nat → Int32) × Int32 × (Nat → Int32) × (Nat → Int32) × (Nat → Int32) × (Nat → Int32) × (Nat → Int32) × Int32 × (Nat → Int32) × (Nat → Int32) × Int32)) (h : fX4_line N l_a l_b l_c l_n m_x m_y m_d m_t m_v m_n r_s r_n r_k x1 x2 x3 = some v) : wXi l G yX4_line wsX4_line ({ frames := 6, cells := 4, slots := 24, locals := 148 } : Room) [.ref c0, .int x1, .int x2, .int x3] (w_C G c0 l0 l1 l2 l3 m0 m1 m2 m3 m4 m5 r0 r1 r2 r3 g0 g_e l_a l_b l_c l_n m_x m_y m_d m_t m_v m_n r_s r_n r_w r_k) v (fun t : Int32 × (Nat → Int32) × (Nat → Int32) × (Nat → Int32) × Int32 × (Nat → Int32) × (Nat → Int32) × (Nat → Int32) × (Nat → Int32) × (Nat → Int32) × Int32 × (Nat → Int32) × (Nat → Int32) × Int32 => (w_C G c0 l0 l1 l2 l3 m0 m1 m2 m3 m4 m5 r0 r1 r2 r3 g0 g_e t.2.1 t.2.2.1 t.2.2.2.1 t.2.2.2.2.1 t.2.2.2.2.2.1 t.2.2.2.2.2.2.1 t.2.2.2.2.2.2.2.1 t.2.2.2.2.2.2.2.2.1 t.2.2.2.2.2.2.2.2.2.1 t.2.2.2.2.2.2.2.2.2.2.1 t.2.2.2.2.2.2.2.2.2.2.2.1 t.2.2.2.2.2.2.2.2.2.2.2.2.1 r_w t.2.2.2.2.2.2.2.2.2.2.2.2.2)) (fun t : Int32 × (Nat → Int32) × (Nat → Int32) × (Nat → Int32) × Int32 × (Nat → Int32) × (Nat → Int32) × (Nat → Int32) × (Nat → Int32) × (Nat → Int32) × Int32 × (Nat → Int32) × (Nat → Int32) × Int32 => t.1) 4 24 := by
  refine wXi.mk (cc := cX4_line) (maxL := 4) (ty := .int) (by decide) rfl (Nat.le_of_ble_eq_true rfl) ?_
  intro p e s m below meth c A ls hx hb hml hr hlocks hts hown hK hA hP hD hT hnoh hl
  have hx : p.tables.exec = Jvm.exec := hx
  have hown : s.vm.findClass RX4 = some m.cls := hown
  have hinX4 : ∀ w ∈ wsX40, w ∈ wsX4_line := by decide +kernel
  have lk10 := hts (.fieldLink RX4 10 "Chamberwright" "lines" "LChamberwright$Lines;") (by decide +kernel)
  have lxIAE := hts (.classLink RX4 41 xIAE) (by decide +kernel)
  have iniIAE := hts (.initialized xIAE) (by decide +kernel)
  have gwIAE : ∀ w ∈ (vx_atS RX4 45 xIAE xNms).filter goodWord, w.before _ s = true := fun w hw => hts w ((by decide +kernel : ∀ w ∈ (vx_atS RX4 45 xIAE xNms).filter goodWord, w ∈ wsX4_line) w hw)
  have lxISE := hts (.classLink RX4 56 xISE) (by decide +kernel)
  have iniISE := hts (.initialized xISE) (by decide +kernel)
  have gwISE : ∀ w ∈ (vx_atS RX4 60 xISE xNms).filter goodWord, w.before _ s = true := fun w hw => hts w ((by decide +kernel : ∀ w ∈ (vx_atS RX4 60 xISE xNms).filter goodWord, w ∈ wsX4_line) w hw)
  have hS : va_S A s.heap s.heap [] := va_S.rf
  have hP : va_P G.1 vwCl (w_C G c0 l0 l1 l2 l3 m0 m1 m2 m3 m4 m5 r0 r1 r2 r3 g0 g_e l_a l_b l_c l_n m_x m_y m_d m_t m_v m_n r_s r_n r_w r_k) s.heap := hP
  have hD : va_D A (w_C G c0 l0 l1 l2 l3 m0 m1 m2 m3 m4 m5 r0 r1 r2 r3 g0 g_e l_a l_b l_c l_n m_x m_y m_d m_t m_v m_n r_s r_n r_w r_k) := hD
  have hl : lv_has ls 4 [(0, .ref c0), (1, .int x1), (2, .int x2), (3, .int x3)] := hl
  obtain ⟨args, hargs⟩ : ∃ z : Array Value, z = ([.ref c0, .int x1, .int x2, .int x3] : List Value).toArray := ⟨_, rfl⟩
  rw [← hargs]
  rw [← hargs] at hts
  rw [← hargs] at lxIAE iniIAE gwIAE
  rw [← hargs] at lxISE iniISE gwISE
  have w_39 : ∀ (x1 : Int32) (x2 : Int32) (x3 : Int32) (l_a : Nat → Int32) (l_b : Nat → Int32) (l_c : Nat → Int32) (l_n : Int32) (m_x : Nat → Int32) (m_y : Nat → Int32) (m_d : Nat → Int32) (m_t : Nat → Int32) (m_v : Nat → Int32) (m_n : Int32) (r_s : Nat → Int32) (r_n : Nat → Int32) (r_k : Int32)  (H : Heap) (locs : List Loc) (ls : Array Slot), va_P G.1 vwCl (w_C G c0 l0 l1 l2 l3 m0 m1 m2 m3 m4 m5 r0 r1 r2 r3 g0 g_e l_a l_b l_c l_n m_x m_y m_d m_t m_v m_n r_s r_n r_w r_k) H → va_D A (w_C G c0 l0 l1 l2 l3 m0 m1 m2 m3 m4 m5 r0 r1 r2 r3 g0 g_e l_a l_b l_c l_n m_x m_y m_d m_t m_v m_n r_s r_n r_w r_k) → va_S A s.heap H locs → lv_has ls 4 [(0, .ref c0), (1, .int x1), (2, .int x2), (3, .int x3)] → fX4_line_b39 N x1 x2 x3 l_a l_b l_c l_n m_x m_y m_d m_t m_v m_n r_s r_n r_k = some v → W p l e ({ frames := 6, cells := 4, slots := 24, locals := 148 } : Room) s m args below meth c H locs 3 18 (wQxi G A below args s (w_C G c0 l0 l1 l2 l3 m0 m1 m2 m3 m4 m5 r0 r1 r2 r3 g0 g_e l_a l_b l_c l_n m_x m_y m_d m_t m_v m_n r_s r_n r_w r_k) v (fun t : Int32 × (Nat → Int32) × (Nat → Int32) × (Nat → Int32) × Int32 × (Nat → Int32) × (Nat → Int32) × (Nat → Int32) × (Nat → Int32) × (Nat → Int32) × Int32 × (Nat → Int32) × (Nat → Int32) × Int32 => (w_C G c0 l0 l1 l2 l3 m0 m1 m2 m3 m4 m5 r0 r1 r2 r3 g0 g_e t.2.1 t.2.2.1 t.2.2.2.1 t.2.2.2.2.1 t.2.2.2.2.2.1 t.2.2.2.2.2.2.1 t.2.2.2.2.2.2.2.1 t.2.2.2.2.2.2.2.2.1 t.2.2.2.2.2.2.2.2.2.1 t.2.2.2.2.2.2.2.2.2.2.1 t.2.2.2.2.2.2.2.2.2.2.2.1 t.2.2.2.2.2.2.2.2.2.2.2.2.1 r_w t.2.2.2.2.2.2.2.2.2.2.2.2.2)) (fun t : Int32 × (Nat → Int32) × (Nat → Int32) × (Nat → Int32) × Int32 × (Nat → Int32) × (Nat → Int32) × (Nat → Int32) × (Nat → Int32) × (Nat → Int32) × Int32 × (Nat → Int32) × (Nat → Int32) × Int32 => t.1) 4 24) (F0 m 39 ls []) := by
    intro x1 x2 x3 l_a l_b l_c l_n m_x m_y m_d m_t m_v m_n r_s r_n r_k H locs ls hP hD hS hl h
    rw [fX4_line_b39.eq_1] at h
    refine lv_aload_n hx hb dX4_line_39 rfl (lv_at hl 0 rfl) ?_
    refine va_get (D := G.1) (ci := 4) (v := .ref l0) (C := RX4) (T := TX4) (N := 4) hx hb hts hinX4 hown hK.1 hP 0 rfl rfl 0 (by decide) lk10 (fun _ h9 => h9) rfl dX4_line_40 ?_
    obtain ⟨u_544, hc_545, h⟩ := bd_inv h
    refine wafter_i (wr := [(c0, .inr (4, [.ref l0, .ref m0, .ref r0, .ref g0])), (m0, .inr (2, [.ref m1, .ref m2, .ref m3, .ref m4, .ref m5, .int m_n])), (m1, .inl (G.2.1, 36, .inl m_x)), (m2, .inl (G.2.1, 36, .inl m_y)), (m3, .inl (G.2.1, 36, .inl m_d)), (m4, .inl (G.2.1, 36, .inl m_t)), (m5, .inl (G.2.1, 36, .inl m_v)), (r0, .inr (3, [.ref r1, .ref r2, .ref r3, .int r_k])), (r1, .inl (G.2.1, 46, .inl r_s)), (r2, .inl (G.2.1, 512, .inl r_n)), (r3, .inl (G.2.1, 512, .inl r_w)), (g0, .inr (0, [.long g_e]))]) (w2 := (w_C G c0 l0 l1 l2 l3 m0 m1 m2 m3 m4 m5 r0 r1 r2 r3 g0 g_e l_a l_b l_c l_n m_x m_y m_d m_t m_v m_n r_s r_n r_w r_k)) (va_runV (As := []) (rest := []) ⟨hx, hb, hml, hown, hts⟩ (kX1_isFull (l := l) (G := G) l0 l1 l2 l3 l_a l_b l_c l_n  N u_544 hc_545 _) (cwV 0 hts gX4_line_X1_isFull rfl rfl rfl (by decide +kernel) ⟨Nat.le_of_ble_eq_true rfl, Nat.le_of_ble_eq_true rfl⟩) (wPreV hP hD hK [1, 2, 3, 4] rfl rfl (ci := 1) (qb := 1) rfl rfl rfl) rfl rfl hl.1 rfl (lv_room (Nat.le_of_ble_eq_true rfl)) dX4_line_43 ⟨Nat.le_of_ble_eq_true rfl, Nat.le_of_ble_eq_true rfl⟩) hP hD hS hA [1, 2, 3, 4] [0, 5, 6, 7, 8, 9, 10, 11, 12, 13, 14, 15] [0, 12, 13, 14, 15, 1, 2, 3, 4, 5, 6, 7, 8, 9, 10, 11] rfl rfl rfl (by decide) rfl rfl (fun H locs hP hD hS => ?_)
    refine lv_if_ne (tgt := 63) hx hb dX4_line_46 (by decide) (fun c_546 => ?_) (fun c_546 => ?_)
    · have h := iq c_546 h
      obtain rfl := Option.some.inj h
      exact wthrow_i (cls := xISE) (text := "the LINE is there, or there are 9") hx hb hst hown (by decide +kernel) lxISE iniISE hT (by decide +kernel) gwISE xng_ISE xot_ISE hP hD hS (hl.1.trans hml.symm) dX4_line_63 dX4_line_66 dX4_line_67 dX4_line_69 dX4_line_72 hnoh hlocks (Nat.le_of_ble_eq_true rfl) (Nat.le_of_ble_eq_true rfl) (Nat.le_of_ble_eq_true rfl) (Nat.le_of_ble_eq_true rfl) (Nat.le_of_ble_eq_true rfl) (Nat.le_of_ble_eq_true rfl) rfl
    · have h := ip c_546 h
      refine lv_aload_n hx hb dX4_line_49 rfl (lv_at hl 0 rfl) ?_
      refine va_get (D := G.1) (ci := 4) (v := .ref l0) (C := RX4) (T := TX4) (N := 4) hx hb hts hinX4 hown hK.1 hP 0 rfl rfl 0 (by decide) lk10 (fun _ h9 => h9) rfl dX4_line_50 ?_
      refine lv_iload_n hx hb dX4_line_53 rfl (lv_at hl 1 rfl) ?_
      refine lv_iload_n hx hb dX4_line_54 rfl (lv_at hl 2 rfl) ?_
      refine lv_iload_n hx hb dX4_line_55 rfl (lv_at hl 3 rfl) ?_
      obtain ⟨u_547, hc_548, h⟩ := bd_inv h
      refine wafter_i (wr := [(c0, .inr (4, [.ref l0, .ref m0, .ref r0, .ref g0])), (m0, .inr (2, [.ref m1, .ref m2, .ref m3, .ref m4, .ref m5, .int m_n])), (m1, .inl (G.2.1, 36, .inl m_x)), (m2, .inl (G.2.1, 36, .inl m_y)), (m3, .inl (G.2.1, 36, .inl m_d)), (m4, .inl (G.2.1, 36, .inl m_t)), (m5, .inl (G.2.1, 36, .inl m_v)), (r0, .inr (3, [.ref r1, .ref r2, .ref r3, .int r_k])), (r1, .inl (G.2.1, 46, .inl r_s)), (r2, .inl (G.2.1, 512, .inl r_n)), (r3, .inl (G.2.1, 512, .inl r_w)), (g0, .inr (0, [.long g_e]))]) (w2 := (w_C G c0 l0 l1 l2 l3 m0 m1 m2 m3 m4 m5 r0 r1 r2 r3 g0 g_e l_a l_b l_c l_n m_x m_y m_d m_t m_v m_n r_s r_n r_w r_k)) (va_runV (As := [.int x1, .int x2, .int x3]) (rest := []) ⟨hx, hb, hml, hown, hts⟩ (kX1_numberOf (l := l) (G := G) l0 l1 l2 l3 l_a l_b l_c l_n x1 x2 x3 N u_547 hc_548 _) (cwV 3 hts gX4_line_X1_numberOf rfl rfl rfl (by decide +kernel) ⟨Nat.le_of_ble_eq_true rfl, Nat.le_of_ble_eq_true rfl⟩) (wPreV hP hD hK [1, 2, 3, 4] rfl rfl (ci := 1) (qb := 1) rfl rfl rfl) rfl rfl hl.1 rfl (lv_room (Nat.le_of_ble_eq_true rfl)) dX4_line_56 ⟨Nat.le_of_ble_eq_true rfl, Nat.le_of_ble_eq_true rfl⟩) hP hD hS hA [1, 2, 3, 4] [0, 5, 6, 7, 8, 9, 10, 11, 12, 13, 14, 15] [0, 12, 13, 14, 15, 1, 2, 3, 4, 5, 6, 7, 8, 9, 10, 11] rfl rfl rfl (by decide) rfl rfl (fun H locs hP hD hS => ?_)
      refine lv_iconst (v := (-1)) hx hb dX4_line_59 (by decide) ?_
      refine lv_icmp_eq (tgt := 73) hx hb dX4_line_60 (by decide) (fun c_549 => ?_) (fun c_549 => ?_)
      · have h := ip c_549 h
        refine lv_aload_n hx hb dX4_line_73 rfl (lv_at hl 0 rfl) ?_
        refine va_get (D := G.1) (ci := 4) (v := .ref l0) (C := RX4) (T := TX4) (N := 4) hx hb hts hinX4 hown hK.1 hP 0 rfl rfl 0 (by decide) lk10 (fun _ h9 => h9) rfl dX4_line_74 ?_
        refine lv_iload_n hx hb dX4_line_77 rfl (lv_at hl 1 rfl) ?_
        refine lv_iload_n hx hb dX4_line_78 rfl (lv_at hl 2 rfl) ?_
        refine lv_iload_n hx hb dX4_line_79 rfl (lv_at hl 3 rfl) ?_
        obtain ⟨u_550, hc_551, h⟩ := bd_inv h
        refine wafter_v (wr := [(c0, .inr (4, [.ref l0, .ref m0, .ref r0, .ref g0])), (m0, .inr (2, [.ref m1, .ref m2, .ref m3, .ref m4, .ref m5, .int m_n])), (m1, .inl (G.2.1, 36, .inl m_x)), (m2, .inl (G.2.1, 36, .inl m_y)), (m3, .inl (G.2.1, 36, .inl m_d)), (m4, .inl (G.2.1, 36, .inl m_t)), (m5, .inl (G.2.1, 36, .inl m_v)), (r0, .inr (3, [.ref r1, .ref r2, .ref r3, .int r_k])), (r1, .inl (G.2.1, 46, .inl r_s)), (r2, .inl (G.2.1, 512, .inl r_n)), (r3, .inl (G.2.1, 512, .inl r_w)), (g0, .inr (0, [.long g_e]))]) (w2 := (w_C G c0 l0 l1 l2 l3 m0 m1 m2 m3 m4 m5 r0 r1 r2 r3 g0 g_e u_550.1 u_550.2.1 u_550.2.2.1 u_550.2.2.2 m_x m_y m_d m_t m_v m_n r_s r_n r_w r_k)) (va_runV (As := [.int x1, .int x2, .int x3]) (rest := []) ⟨hx, hb, hml, hown, hts⟩ (kX1_append (l := l) (G := G) l0 l1 l2 l3 l_a l_b l_c l_n x1 x2 x3 N u_550 hc_551 _) (cwV 3 hts gX4_line_X1_append rfl rfl rfl (by decide +kernel) ⟨Nat.le_of_ble_eq_true rfl, Nat.le_of_ble_eq_true rfl⟩) (wPreV hP hD hK [1, 2, 3, 4] rfl rfl (ci := 1) (qb := 1) rfl rfl rfl) rfl rfl hl.1 rfl (lv_room (Nat.le_of_ble_eq_true rfl)) dX4_line_80 ⟨Nat.le_of_ble_eq_true rfl, Nat.le_of_ble_eq_true rfl⟩) hP hD hS hA [1, 2, 3, 4] [0, 5, 6, 7, 8, 9, 10, 11, 12, 13, 14, 15] [0, 12, 13, 14, 15, 1, 2, 3, 4, 5, 6, 7, 8, 9, 10, 11] rfl rfl rfl (by decide) rfl rfl (fun H locs hP hD hS => ?_)
        refine lv_aload_n hx hb dX4_line_83 rfl (lv_at hl 0 rfl) ?_
        obtain ⟨u_552, hc_553, h⟩ := bd_inv h
        refine wafter_v (wr := []) (w2 := (w_C G c0 l0 l1 l2 l3 m0 m1 m2 m3 m4 m5 r0 r1 r2 r3 g0 g_e u_550.1 u_550.2.1 u_550.2.2.1 u_550.2.2.2 u_552.1 u_552.2.1 u_552.2.2.1 u_552.2.2.2.1 u_552.2.2.2.2.1 u_552.2.2.2.2.2.1 u_552.2.2.2.2.2.2.1 u_552.2.2.2.2.2.2.2.1 r_w u_552.2.2.2.2.2.2.2.2)) (va_runV (As := []) (rest := []) ⟨hx, hb, hml, hown, hts⟩ (kX4_lookAnew (l := l) (G := G) c0 l0 l1 l2 l3 m0 m1 m2 m3 m4 m5 r0 r1 r2 r3 g0 g_e u_550.1 u_550.2.1 u_550.2.2.1 u_550.2.2.2 m_x m_y m_d m_t m_v m_n r_s r_n r_w r_k  N u_552 hc_553 _) (cwV 0 hts gX4_line_X4_lookAnew rfl rfl rfl (by decide +kernel) ⟨Nat.le_of_ble_eq_true rfl, Nat.le_of_ble_eq_true rfl⟩) (wPreV hP hD hK [0, 1, 2, 3, 4, 5, 6, 7, 8, 9, 10, 11, 12, 13, 14, 15] rfl rfl (ci := 4) (qb := 0) rfl rfl rfl) rfl rfl hl.1 rfl (lv_room (Nat.le_of_ble_eq_true rfl)) dX4_line_84 ⟨Nat.le_of_ble_eq_true rfl, Nat.le_of_ble_eq_true rfl⟩) hP hD hS hA [0, 1, 2, 3, 4, 5, 6, 7, 8, 9, 10, 11, 12, 13, 14, 15] [] [0, 1, 2, 3, 4, 5, 6, 7, 8, 9, 10, 11, 12, 13, 14, 15] rfl rfl rfl (by decide) rfl rfl (fun H locs hP hD hS => ?_)
        refine lv_aload_n hx hb dX4_line_87 rfl (lv_at hl 0 rfl) ?_
        refine va_get (D := G.1) (ci := 4) (v := .ref l0) (C := RX4) (T := TX4) (N := 4) hx hb hts hinX4 hown hK.1 hP 0 rfl rfl 0 (by decide) lk10 (fun _ h9 => h9) rfl dX4_line_88 ?_
        obtain ⟨u_554, hc_555, h⟩ := bd_inv h
        refine wafter_i (wr := [(c0, .inr (4, [.ref l0, .ref m0, .ref r0, .ref g0])), (m0, .inr (2, [.ref m1, .ref m2, .ref m3, .ref m4, .ref m5, .int u_552.2.2.2.2.2.1])), (m1, .inl (G.2.1, 36, .inl u_552.1)), (m2, .inl (G.2.1, 36, .inl u_552.2.1)), (m3, .inl (G.2.1, 36, .inl u_552.2.2.1)), (m4, .inl (G.2.1, 36, .inl u_552.2.2.2.1)), (m5, .inl (G.2.1, 36, .inl u_552.2.2.2.2.1)), (r0, .inr (3, [.ref r1, .ref r2, .ref r3, .int u_552.2.2.2.2.2.2.2.2])), (r1, .inl (G.2.1, 46, .inl u_552.2.2.2.2.2.2.1)), (r2, .inl (G.2.1, 512, .inl u_552.2.2.2.2.2.2.2.1)), (r3, .inl (G.2.1, 512, .inl r_w)), (g0, .inr (0, [.long g_e]))]) (w2 := (w_C G c0 l0 l1 l2 l3 m0 m1 m2 m3 m4 m5 r0 r1 r2 r3 g0 g_e u_550.1 u_550.2.1 u_550.2.2.1 u_550.2.2.2 u_552.1 u_552.2.1 u_552.2.2.1 u_552.2.2.2.1 u_552.2.2.2.2.1 u_552.2.2.2.2.2.1 u_552.2.2.2.2.2.2.1 u_552.2.2.2.2.2.2.2.1 r_w u_552.2.2.2.2.2.2.2.2)) (va_runV (As := []) (rest := []) ⟨hx, hb, hml, hown, hts⟩ (kX1_count (l := l) (G := G) l0 l1 l2 l3 u_550.1 u_550.2.1 u_550.2.2.1 u_550.2.2.2  N u_554 hc_555 _) (cwV 0 hts gX4_line_X1_count rfl rfl rfl (by decide +kernel) ⟨Nat.le_of_ble_eq_true rfl, Nat.le_of_ble_eq_true rfl⟩) (wPreV hP hD hK [1, 2, 3, 4] rfl rfl (ci := 1) (qb := 1) rfl rfl rfl) rfl rfl hl.1 rfl (lv_room (Nat.le_of_ble_eq_true rfl)) dX4_line_91 ⟨Nat.le_of_ble_eq_true rfl, Nat.le_of_ble_eq_true rfl⟩) hP hD hS hA [1, 2, 3, 4] [0, 5, 6, 7, 8, 9, 10, 11, 12, 13, 14, 15] [0, 12, 13, 14, 15, 1, 2, 3, 4, 5, 6, 7, 8, 9, 10, 11] rfl rfl rfl (by decide) rfl rfl (fun H locs hP hD hS => ?_)
        refine lv_iconst (v := 1) hx hb dX4_line_94 (by decide) ?_
        refine lv_isub hx hb dX4_line_95 ?_
        obtain rfl := Option.some.inj h
        exact wrxi (ty := .int) (t0 := ((u_554 - 1), u_550.1, u_550.2.1, u_550.2.2.1, u_550.2.2.2, u_552.1, u_552.2.1, u_552.2.2.1, u_552.2.2.2.1, u_552.2.2.2.2.1, u_552.2.2.2.2.2.1, u_552.2.2.2.2.2.2.1, u_552.2.2.2.2.2.2.2.1, u_552.2.2.2.2.2.2.2.2)) hx hb hr hlocks hP hD hS (Nat.le_of_ble_eq_true rfl) (Nat.le_of_ble_eq_true rfl) rfl rfl dX4_line_96
      · have h := iq c_549 h
        obtain rfl := Option.some.inj h
        exact wthrow_i (cls := xISE) (text := "the LINE is there, or there are 9") hx hb hst hown (by decide +kernel) lxISE iniISE hT (by decide +kernel) gwISE xng_ISE xot_ISE hP hD hS (hl.1.trans hml.symm) dX4_line_63 dX4_line_66 dX4_line_67 dX4_line_69 dX4_line_72 hnoh hlocks (Nat.le_of_ble_eq_true rfl) (Nat.le_of_ble_eq_true rfl) (Nat.le_of_ble_eq_true rfl) (Nat.le_of_ble_eq_true rfl) (Nat.le_of_ble_eq_true rfl) (Nat.le_of_ble_eq_true rfl) rfl
  rw [fX4_line.eq_1] at h
  refine lv_iload_n hx hb dX4_line_0 rfl (lv_at hl 1 rfl) ?_
  obtain ⟨u_556, hc_557, h⟩ := bd_inv h
  refine wafter_i (wr := (w_C G c0 l0 l1 l2 l3 m0 m1 m2 m3 m4 m5 r0 r1 r2 r3 g0 g_e l_a l_b l_c l_n m_x m_y m_d m_t m_v m_n r_s r_n r_w r_k)) (w2 := (w_C G c0 l0 l1 l2 l3 m0 m1 m2 m3 m4 m5 r0 r1 r2 r3 g0 g_e l_a l_b l_c l_n m_x m_y m_d m_t m_v m_n r_s r_n r_w r_k)) (va_runS (As := [.int x1]) (rest := []) ⟨hx, hb, hml, hown, hts⟩ (kX4_isTooFar (l := l) (G := G)   x1 N u_556 hc_557 _) (va_cwS 1 hts gX4_line_X4_isTooFar rfl rfl rfl (by decide +kernel) ⟨Nat.le_of_ble_eq_true rfl, Nat.le_of_ble_eq_true rfl⟩) (wPreS hP hD hK [] rfl rfl) rfl rfl hl.1 rfl (lv_room (Nat.le_of_ble_eq_true rfl)) dX4_line_1 ⟨Nat.le_of_ble_eq_true rfl, Nat.le_of_ble_eq_true rfl⟩) hP hD hS hA [] [0, 1, 2, 3, 4, 5, 6, 7, 8, 9, 10, 11, 12, 13, 14, 15] [0, 1, 2, 3, 4, 5, 6, 7, 8, 9, 10, 11, 12, 13, 14, 15] rfl rfl rfl (by decide) rfl rfl (fun H locs hP hD hS => ?_)
  refine lv_if_ne (tgt := 29) hx hb dX4_line_4 (by decide) (fun c_558 => ?_) (fun c_558 => ?_)
  · have h := iq c_558 h
    obtain rfl := Option.some.inj h
    exact wthrow_i (cls := xIAE) (text := "a, b or c is out of range, or a and b are both 0") hx hb hst hown (by decide +kernel) lxIAE iniIAE hT (by decide +kernel) gwIAE xng_IAE xot_IAE hP hD hS (hl.1.trans hml.symm) dX4_line_29 dX4_line_32 dX4_line_33 dX4_line_35 dX4_line_38 hnoh hlocks (Nat.le_of_ble_eq_true rfl) (Nat.le_of_ble_eq_true rfl) (Nat.le_of_ble_eq_true rfl) (Nat.le_of_ble_eq_true rfl) (Nat.le_of_ble_eq_true rfl) (Nat.le_of_ble_eq_true rfl) rfl
  · have h := ip c_558 h
    refine lv_iload_n hx hb dX4_line_7 rfl (lv_at hl 2 rfl) ?_
    obtain ⟨u_559, hc_560, h⟩ := bd_inv h
    refine wafter_i (wr := (w_C G c0 l0 l1 l2 l3 m0 m1 m2 m3 m4 m5 r0 r1 r2 r3 g0 g_e l_a l_b l_c l_n m_x m_y m_d m_t m_v m_n r_s r_n r_w r_k)) (w2 := (w_C G c0 l0 l1 l2 l3 m0 m1 m2 m3 m4 m5 r0 r1 r2 r3 g0 g_e l_a l_b l_c l_n m_x m_y m_d m_t m_v m_n r_s r_n r_w r_k)) (va_runS (As := [.int x2]) (rest := []) ⟨hx, hb, hml, hown, hts⟩ (kX4_isTooFar (l := l) (G := G)   x2 N u_559 hc_560 _) (va_cwS 1 hts gX4_line_X4_isTooFar rfl rfl rfl (by decide +kernel) ⟨Nat.le_of_ble_eq_true rfl, Nat.le_of_ble_eq_true rfl⟩) (wPreS hP hD hK [] rfl rfl) rfl rfl hl.1 rfl (lv_room (Nat.le_of_ble_eq_true rfl)) dX4_line_8 ⟨Nat.le_of_ble_eq_true rfl, Nat.le_of_ble_eq_true rfl⟩) hP hD hS hA [] [0, 1, 2, 3, 4, 5, 6, 7, 8, 9, 10, 11, 12, 13, 14, 15] [0, 1, 2, 3, 4, 5, 6, 7, 8, 9, 10, 11, 12, 13, 14, 15] rfl rfl rfl (by decide) rfl rfl (fun H locs hP hD hS => ?_)
    refine lv_if_ne (tgt := 29) hx hb dX4_line_11 (by decide) (fun c_561 => ?_) (fun c_561 => ?_)
    · have h := iq c_561 h
      obtain rfl := Option.some.inj h
      exact wthrow_i (cls := xIAE) (text := "a, b or c is out of range, or a and b are both 0") hx hb hst hown (by decide +kernel) lxIAE iniIAE hT (by decide +kernel) gwIAE xng_IAE xot_IAE hP hD hS (hl.1.trans hml.symm) dX4_line_29 dX4_line_32 dX4_line_33 dX4_line_35 dX4_line_38 hnoh hlocks (Nat.le_of_ble_eq_true rfl) (Nat.le_of_ble_eq_true rfl) (Nat.le_of_ble_eq_true rfl) (Nat.le_of_ble_eq_true rfl) (Nat.le_of_ble_eq_true rfl) (Nat.le_of_ble_eq_true rfl) rfl
    · have h := ip c_561 h
      refine lv_iload_n hx hb dX4_line_14 rfl (lv_at hl 3 rfl) ?_
      obtain ⟨u_562, hc_563, h⟩ := bd_inv h
      refine wafter_i (wr := (w_C G c0 l0 l1 l2 l3 m0 m1 m2 m3 m4 m5 r0 r1 r2 r3 g0 g_e l_a l_b l_c l_n m_x m_y m_d m_t m_v m_n r_s r_n r_w r_k)) (w2 := (w_C G c0 l0 l1 l2 l3 m0 m1 m2 m3 m4 m5 r0 r1 r2 r3 g0 g_e l_a l_b l_c l_n m_x m_y m_d m_t m_v m_n r_s r_n r_w r_k)) (va_runS (As := [.int x3]) (rest := []) ⟨hx, hb, hml, hown, hts⟩ (kX4_isTooFar (l := l) (G := G)   x3 N u_562 hc_563 _) (va_cwS 1 hts gX4_line_X4_isTooFar rfl rfl rfl (by decide +kernel) ⟨Nat.le_of_ble_eq_true rfl, Nat.le_of_ble_eq_true rfl⟩) (wPreS hP hD hK [] rfl rfl) rfl rfl hl.1 rfl (lv_room (Nat.le_of_ble_eq_true rfl)) dX4_line_15 ⟨Nat.le_of_ble_eq_true rfl, Nat.le_of_ble_eq_true rfl⟩) hP hD hS hA [] [0, 1, 2, 3, 4, 5, 6, 7, 8, 9, 10, 11, 12, 13, 14, 15] [0, 1, 2, 3, 4, 5, 6, 7, 8, 9, 10, 11, 12, 13, 14, 15] rfl rfl rfl (by decide) rfl rfl (fun H locs hP hD hS => ?_)
      refine lv_if_ne (tgt := 29) hx hb dX4_line_18 (by decide) (fun c_564 => ?_) (fun c_564 => ?_)
      · have h := iq c_564 h
        obtain rfl := Option.some.inj h
        exact wthrow_i (cls := xIAE) (text := "a, b or c is out of range, or a and b are both 0") hx hb hst hown (by decide +kernel) lxIAE iniIAE hT (by decide +kernel) gwIAE xng_IAE xot_IAE hP hD hS (hl.1.trans hml.symm) dX4_line_29 dX4_line_32 dX4_line_33 dX4_line_35 dX4_line_38 hnoh hlocks (Nat.le_of_ble_eq_true rfl) (Nat.le_of_ble_eq_true rfl) (Nat.le_of_ble_eq_true rfl) (Nat.le_of_ble_eq_true rfl) (Nat.le_of_ble_eq_true rfl) (Nat.le_of_ble_eq_true rfl) rfl
      · have h := ip c_564 h
        refine lv_iload_n hx hb dX4_line_21 rfl (lv_at hl 1 rfl) ?_
        refine lv_if_ne (tgt := 39) hx hb dX4_line_22 (by decide) (fun c_565 => ?_) (fun c_565 => ?_)
        · have h := iq c_565 h
          refine W.widen (k := 3) (n := 18) (Nat.le_of_ble_eq_true rfl) (Nat.le_of_ble_eq_true rfl) ?_
          exact w_39  _ _ _ _ _ _ _ _ _ _ _ _ _ _ _ _  _ _ _  hP hD hS (lv_sub hl [0, 1, 2, 3] rfl) h
        · have h := ip c_565 h
          refine lv_iload_n hx hb dX4_line_25 rfl (lv_at hl 2 rfl) ?_
          refine lv_if_ne (tgt := 39) hx hb dX4_line_26 (by decide) (fun c_566 => ?_) (fun c_566 => ?_)
          · have h := iq c_566 h
            refine W.widen (k := 3) (n := 18) (Nat.le_of_ble_eq_true rfl) (Nat.le_of_ble_eq_true rfl) ?_
            exact w_39  _ _ _ _ _ _ _ _ _ _ _ _ _ _ _ _  _ _ _  hP hD hS (lv_sub hl [0, 1, 2, 3] rfl) h
          · have h := ip c_566 h
            obtain rfl := Option.some.inj h
            exact wthrow_i (cls := xIAE) (text := "a, b or c is out of range, or a and b are both 0") hx hb hst hown (by decide +kernel) lxIAE iniIAE hT (by decide +kernel) gwIAE xng_IAE xot_IAE hP hD hS (hl.1.trans hml.symm) dX4_line_29 dX4_line_32 dX4_line_33 dX4_line_35 dX4_line_38 hnoh hlocks (Nat.le_of_ble_eq_true rfl) (Nat.le_of_ble_eq_true rfl) (Nat.le_of_ble_eq_true rfl) (Nat.le_of_ble_eq_true rfl) (Nat.le_of_ble_eq_true rfl) (Nat.le_of_ble_eq_true rfl) rfl
def fX4_checkLine (N : Nat) (l_n : Int32) (x1 : Int32) : Option (String ⊕ (Unit)) := if x1 < 0 then some (.inl xIOO) else bd (fX1_count N l_n) (fun u_568 => if x1 < u_568 then some (.inr ()) else some (.inl xIOO))
set_option maxHeartbeats 4000000 in
set_option maxRecDepth 100000 in
theorem nX4_checkLine {l : Launch} {G : wG} (c0 l0 l1 l2 l3 m0 m1 m2 m3 m4 m5 r0 r1 r2 r3 g0 : Nat) (g_e : Int64) (l_a : Nat → Int32) (l_b : Nat → Int32) (l_c : Nat → Int32) (l_n : Int32) (m_x : Nat → Int32) (m_y : Nat → Int32) (m_d : Nat → Int32) (m_t : Nat → Int32) (m_v : Nat → Int32) (m_n : Int32) (r_s : Nat → Int32) (r_n : Nat → Int32) (r_w : Nat → Int32) (r_k : Int32) (x1 : Int32) (N : Nat) (v : Unit) (h : fX4_checkLine N l_n x1 = some (.inr v)) : wCv l G yX4_checkLine wsX4_checkLine ({ frames := 6, cells := 0, slots := 0, locals := 100 } : Room) [.ref c0, .int x1] (w_C G c0 l0 l1 l2 l3 m0 m1 m2 m3 m4 m5 r0 r1 r2 r3 g0 g_e l_a l_b l_c l_n m_x m_y m_d m_t m_v m_n r_s r_n r_w r_k) (w_C G c0 l0 l1 l2 l3 m0 m1 m2 m3 m4 m5 r0 r1 r2 r3 g0 g_e l_a l_b l_c l_n m_x m_y m_d m_t m_v m_n r_s r_n r_w r_k) 0 0 := by
  refine wCv.mk (cc := cX4_checkLine) (maxL := 2) (by decide) rfl (Nat.le_of_ble_eq_true rfl) ?_
  intro p e s m below meth c A ls hx hb hml hr hlocks hts hown hK hA hP hD hl
  have hx : p.tables.exec = Jvm.exec := hx
  have hown : s.vm.findClass RX4 = some m.cls := hown
  have hinX4 : ∀ w ∈ wsX40, w ∈ wsX4_checkLine := by decide +kernel
  have lk10 := hts (.fieldLink RX4 10 "Chamberwright" "lines" "LChamberwright$Lines;") (by decide +kernel)
  have hS : va_S A s.heap s.heap [] := va_S.rf
  have hP : va_P G.1 vwCl (w_C G c0 l0 l1 l2 l3 m0 m1 m2 m3 m4 m5 r0 r1 r2 r3 g0 g_e l_a l_b l_c l_n m_x m_y m_d m_t m_v m_n r_s r_n r_w r_k) s.heap := hP
  have hD : va_D A (w_C G c0 l0 l1 l2 l3 m0 m1 m2 m3 m4 m5 r0 r1 r2 r3 g0 g_e l_a l_b l_c l_n m_x m_y m_d m_t m_v m_n r_s r_n r_w r_k) := hD
  have hl : lv_has ls 2 [(0, .ref c0), (1, .int x1)] := hl
  obtain ⟨args, hargs⟩ : ∃ z : Array Value, z = ([.ref c0, .int x1] : List Value).toArray := ⟨_, rfl⟩
  rw [← hargs]
  rw [← hargs] at hts
  rw [fX4_checkLine.eq_1] at h
  refine lv_iload_n hx hb dX4_checkLine_0 rfl (lv_at hl 1 rfl) ?_
  refine lv_if_lt (tgt := 15) hx hb dX4_checkLine_1 (by decide) (fun c_567 => ?_) (fun c_567 => ?_)
  · have h := ip c_567 h
    cases h
  · have h := iq c_567 h
    refine lv_iload_n hx hb dX4_checkLine_4 rfl (lv_at hl 1 rfl) ?_
    refine lv_aload_n hx hb dX4_checkLine_5 rfl (lv_at hl 0 rfl) ?_
    refine va_get (D := G.1) (ci := 4) (v := .ref l0) (C := RX4) (T := TX4) (N := 4) hx hb hts hinX4 hown hK.1 hP 0 rfl rfl 0 (by decide) lk10 (fun _ h9 => h9) rfl dX4_checkLine_6 ?_
    obtain ⟨u_568, hc_569, h⟩ := bd_inv h
    refine wafter_i (wr := [(c0, .inr (4, [.ref l0, .ref m0, .ref r0, .ref g0])), (m0, .inr (2, [.ref m1, .ref m2, .ref m3, .ref m4, .ref m5, .int m_n])), (m1, .inl (G.2.1, 36, .inl m_x)), (m2, .inl (G.2.1, 36, .inl m_y)), (m3, .inl (G.2.1, 36, .inl m_d)), (m4, .inl (G.2.1, 36, .inl m_t)), (m5, .inl (G.2.1, 36, .inl m_v)), (r0, .inr (3, [.ref r1, .ref r2, .ref r3, .int r_k])), (r1, .inl (G.2.1, 46, .inl r_s)), (r2, .inl (G.2.1, 512, .inl r_n)), (r3, .inl (G.2.1, 512, .inl r_w)), (g0, .inr (0, [.long g_e]))]) (w2 := (w_C G c0 l0 l1 l2 l3 m0 m1 m2 m3 m4 m5 r0 r1 r2 r3 g0 g_e l_a l_b l_c l_n m_x m_y m_d m_t m_v m_n r_s r_n r_w r_k)) (va_runV (As := []) (rest := [.int x1]) ⟨hx, hb, hml, hown, hts⟩ (kX1_count (l := l) (G := G) l0 l1 l2 l3 l_a l_b l_c l_n  N u_568 hc_569 _) (cwV 0 hts gX4_checkLine_X1_count rfl rfl rfl (by decide +kernel) ⟨Nat.le_of_ble_eq_true rfl, Nat.le_of_ble_eq_true rfl⟩) (wPreV hP hD hK [1, 2, 3, 4] rfl rfl (ci := 1) (qb := 1) rfl rfl rfl) rfl rfl hl.1 rfl (lv_room (Nat.le_of_ble_eq_true rfl)) dX4_checkLine_9 ⟨Nat.zero_le _, Nat.zero_le _⟩) hP hD hS hA [1, 2, 3, 4] [0, 5, 6, 7, 8, 9, 10, 11, 12, 13, 14, 15] [0, 12, 13, 14, 15, 1, 2, 3, 4, 5, 6, 7, 8, 9, 10, 11] rfl rfl rfl (by decide) rfl rfl (fun H locs hP hD hS => ?_)
    refine lv_icmp_lt (tgt := 25) hx hb dX4_checkLine_12 (by decide) (fun c_570 => ?_) (fun c_570 => ?_)
    · have h := ip c_570 h
      obtain rfl := Sum.inr.inj (Option.some.inj h)
      exact wrv hx hb hr hlocks hP hD hS (Nat.le_of_ble_eq_true rfl) (Nat.le_of_ble_eq_true rfl) dX4_checkLine_25
    · have h := iq c_570 h
      cases h
def fX4_takeAway (N : Nat) (l_a : Nat → Int32) (l_b : Nat → Int32) (l_c : Nat → Int32) (l_n : Int32) (m_x : Nat → Int32) (m_y : Nat → Int32) (m_d : Nat → Int32) (m_t : Nat → Int32) (m_v : Nat → Int32) (m_n : Int32) (r_s : Nat → Int32) (r_n : Nat → Int32) (r_k : Int32) (x1 : Int32) : Option (String ⊕ (Int32 × (Nat → Int32) × (Nat → Int32) × (Nat → Int32) × Int32 × (Nat → Int32) × (Nat → Int32) × (Nat → Int32) × (Nat → Int32) × (Nat → Int32) × Int32 × (Nat → Int32) × (Nat → Int32) × Int32)) := bdx (fX4_checkLine N l_n x1) (fun u_571 => bd (fX1_remove N l_a l_b l_c l_n x1) (fun u_573 => bd (fX4_lookAnew N u_573.1 u_573.2.1 u_573.2.2.1 u_573.2.2.2 m_x m_y m_d m_t m_v m_n r_s r_n r_k) (fun u_575 => bd (fX1_count N u_573.2.2.2) (fun u_577 => some (.inr (u_577, u_573.1, u_573.2.1, u_573.2.2.1, u_573.2.2.2, u_575.1, u_575.2.1, u_575.2.2.1, u_575.2.2.2.1, u_575.2.2.2.2.1, u_575.2.2.2.2.2.1, u_575.2.2.2.2.2.2.1, u_575.2.2.2.2.2.2.2.1, u_575.2.2.2.2.2.2.2.2))))))
set_option maxHeartbeats 4000000 in
set_option maxRecDepth 100000 in
theorem nX4_takeAway {l : Launch} {G : wG} (c0 l0 l1 l2 l3 m0 m1 m2 m3 m4 m5 r0 r1 r2 r3 g0 : Nat) (g_e : Int64) (l_a : Nat → Int32) (l_b : Nat → Int32) (l_c : Nat → Int32) (l_n : Int32) (m_x : Nat → Int32) (m_y : Nat → Int32) (m_d : Nat → Int32) (m_t : Nat → Int32) (m_v : Nat → Int32) (m_n : Int32) (r_s : Nat → Int32) (r_n : Nat → Int32) (r_w : Nat → Int32) (r_k : Int32) (x1 : Int32) (N : Nat) (v : Int32 × (Nat → Int32) × (Nat → Int32) × (Nat → Int32) × Int32 × (Nat → Int32) × (Nat → Int32) × (Nat → Int32) × (Nat → Int32) × (Nat → Int32) × Int32 × (Nat → Int32) × (Nat → Int32) × Int32) (h : fX4_takeAway N l_a l_b l_c l_n m_x m_y m_d m_t m_v m_n r_s r_n r_k x1 = some (.inr v)) : wCi l G yX4_takeAway wsX4_takeAway ({ frames := 7, cells := 0, slots := 0, locals := 148 } : Room) [.ref c0, .int x1] (w_C G c0 l0 l1 l2 l3 m0 m1 m2 m3 m4 m5 r0 r1 r2 r3 g0 g_e l_a l_b l_c l_n m_x m_y m_d m_t m_v m_n r_s r_n r_w r_k) (w_C G c0 l0 l1 l2 l3 m0 m1 m2 m3 m4 m5 r0 r1 r2 r3 g0 g_e v.2.1 v.2.2.1 v.2.2.2.1 v.2.2.2.2.1 v.2.2.2.2.2.1 v.2.2.2.2.2.2.1 v.2.2.2.2.2.2.2.1 v.2.2.2.2.2.2.2.2.1 v.2.2.2.2.2.2.2.2.2.1 v.2.2.2.2.2.2.2.2.2.2.1 v.2.2.2.2.2.2.2.2.2.2.2.1 v.2.2.2.2.2.2.2.2.2.2.2.2.1 r_w v.2.2.2.2.2.2.2.2.2.2.2.2.2) 0 0 v.1 := by
  refine wCi.mk (cc := cX4_takeAway) (maxL := 2) (ty := .int) (by decide) rfl (Nat.le_of_ble_eq_true rfl) ?_
  intro p e s m below meth c A ls hx hb hml hr hlocks hts hown hK hA hP hD hl
  have hx : p.tables.exec = Jvm.exec := hx
  have hown : s.vm.findClass RX4 = some m.cls := hown
  have hinX4 : ∀ w ∈ wsX40, w ∈ wsX4_takeAway := by decide +kernel
  have lk10 := hts (.fieldLink RX4 10 "Chamberwright" "lines" "LChamberwright$Lines;") (by decide +kernel)
  have hS : va_S A s.heap s.heap [] := va_S.rf
  have hP : va_P G.1 vwCl (w_C G c0 l0 l1 l2 l3 m0 m1 m2 m3 m4 m5 r0 r1 r2 r3 g0 g_e l_a l_b l_c l_n m_x m_y m_d m_t m_v m_n r_s r_n r_w r_k) s.heap := hP
  have hD : va_D A (w_C G c0 l0 l1 l2 l3 m0 m1 m2 m3 m4 m5 r0 r1 r2 r3 g0 g_e l_a l_b l_c l_n m_x m_y m_d m_t m_v m_n r_s r_n r_w r_k) := hD
  have hl : lv_has ls 2 [(0, .ref c0), (1, .int x1)] := hl
  obtain ⟨args, hargs⟩ : ∃ z : Array Value, z = ([.ref c0, .int x1] : List Value).toArray := ⟨_, rfl⟩
  rw [← hargs]
  rw [← hargs] at hts
  rw [fX4_takeAway.eq_1] at h
  refine lv_aload_n hx hb dX4_takeAway_0 rfl (lv_at hl 0 rfl) ?_
  refine lv_iload_n hx hb dX4_takeAway_1 rfl (lv_at hl 1 rfl) ?_
  obtain ⟨u_571, hc_572, h⟩ := bdx_n h
  refine wafter_v (wr := []) (w2 := (w_C G c0 l0 l1 l2 l3 m0 m1 m2 m3 m4 m5 r0 r1 r2 r3 g0 g_e l_a l_b l_c l_n m_x m_y m_d m_t m_v m_n r_s r_n r_w r_k)) (va_runV (As := [.int x1]) (rest := []) ⟨hx, hb, hml, hown, hts⟩ (nX4_checkLine (l := l) (G := G) c0 l0 l1 l2 l3 m0 m1 m2 m3 m4 m5 r0 r1 r2 r3 g0 g_e l_a l_b l_c l_n m_x m_y m_d m_t m_v m_n r_s r_n r_w r_k x1 N u_571 hc_572 _) (cwV 1 hts gX4_takeAway_X4_checkLine rfl rfl rfl (by decide +kernel) ⟨Nat.le_of_ble_eq_true rfl, Nat.le_of_ble_eq_true rfl⟩) (wPreV hP hD hK [0, 1, 2, 3, 4, 5, 6, 7, 8, 9, 10, 11, 12, 13, 14, 15] rfl rfl (ci := 4) (qb := 0) rfl rfl rfl) rfl rfl hl.1 rfl (lv_room (Nat.le_of_ble_eq_true rfl)) dX4_takeAway_2 ⟨Nat.zero_le _, Nat.zero_le _⟩) hP hD hS hA [0, 1, 2, 3, 4, 5, 6, 7, 8, 9, 10, 11, 12, 13, 14, 15] [] [0, 1, 2, 3, 4, 5, 6, 7, 8, 9, 10, 11, 12, 13, 14, 15] rfl rfl rfl (by decide) rfl rfl (fun H locs hP hD hS => ?_)
  refine lv_aload_n hx hb dX4_takeAway_5 rfl (lv_at hl 0 rfl) ?_
  refine va_get (D := G.1) (ci := 4) (v := .ref l0) (C := RX4) (T := TX4) (N := 4) hx hb hts hinX4 hown hK.1 hP 0 rfl rfl 0 (by decide) lk10 (fun _ h9 => h9) rfl dX4_takeAway_6 ?_
  refine lv_iload_n hx hb dX4_takeAway_9 rfl (lv_at hl 1 rfl) ?_
  obtain ⟨u_573, hc_574, h⟩ := bd_inv h
  refine wafter_v (wr := [(c0, .inr (4, [.ref l0, .ref m0, .ref r0, .ref g0])), (m0, .inr (2, [.ref m1, .ref m2, .ref m3, .ref m4, .ref m5, .int m_n])), (m1, .inl (G.2.1, 36, .inl m_x)), (m2, .inl (G.2.1, 36, .inl m_y)), (m3, .inl (G.2.1, 36, .inl m_d)), (m4, .inl (G.2.1, 36, .inl m_t)), (m5, .inl (G.2.1, 36, .inl m_v)), (r0, .inr (3, [.ref r1, .ref r2, .ref r3, .int r_k])), (r1, .inl (G.2.1, 46, .inl r_s)), (r2, .inl (G.2.1, 512, .inl r_n)), (r3, .inl (G.2.1, 512, .inl r_w)), (g0, .inr (0, [.long g_e]))]) (w2 := (w_C G c0 l0 l1 l2 l3 m0 m1 m2 m3 m4 m5 r0 r1 r2 r3 g0 g_e u_573.1 u_573.2.1 u_573.2.2.1 u_573.2.2.2 m_x m_y m_d m_t m_v m_n r_s r_n r_w r_k)) (va_runV (As := [.int x1]) (rest := []) ⟨hx, hb, hml, hown, hts⟩ (kX1_remove (l := l) (G := G) l0 l1 l2 l3 l_a l_b l_c l_n x1 N u_573 hc_574 _) (cwV 1 hts gX4_takeAway_X1_remove rfl rfl rfl (by decide +kernel) ⟨Nat.le_of_ble_eq_true rfl, Nat.le_of_ble_eq_true rfl⟩) (wPreV hP hD hK [1, 2, 3, 4] rfl rfl (ci := 1) (qb := 1) rfl rfl rfl) rfl rfl hl.1 rfl (lv_room (Nat.le_of_ble_eq_true rfl)) dX4_takeAway_10 ⟨Nat.zero_le _, Nat.zero_le _⟩) hP hD hS hA [1, 2, 3, 4] [0, 5, 6, 7, 8, 9, 10, 11, 12, 13, 14, 15] [0, 12, 13, 14, 15, 1, 2, 3, 4, 5, 6, 7, 8, 9, 10, 11] rfl rfl rfl (by decide) rfl rfl (fun H locs hP hD hS => ?_)
  refine lv_aload_n hx hb dX4_takeAway_13 rfl (lv_at hl 0 rfl) ?_
  obtain ⟨u_575, hc_576, h⟩ := bd_inv h
  refine wafter_v (wr := []) (w2 := (w_C G c0 l0 l1 l2 l3 m0 m1 m2 m3 m4 m5 r0 r1 r2 r3 g0 g_e u_573.1 u_573.2.1 u_573.2.2.1 u_573.2.2.2 u_575.1 u_575.2.1 u_575.2.2.1 u_575.2.2.2.1 u_575.2.2.2.2.1 u_575.2.2.2.2.2.1 u_575.2.2.2.2.2.2.1 u_575.2.2.2.2.2.2.2.1 r_w u_575.2.2.2.2.2.2.2.2)) (va_runV (As := []) (rest := []) ⟨hx, hb, hml, hown, hts⟩ (kX4_lookAnew (l := l) (G := G) c0 l0 l1 l2 l3 m0 m1 m2 m3 m4 m5 r0 r1 r2 r3 g0 g_e u_573.1 u_573.2.1 u_573.2.2.1 u_573.2.2.2 m_x m_y m_d m_t m_v m_n r_s r_n r_w r_k  N u_575 hc_576 _) (cwV 0 hts gX4_takeAway_X4_lookAnew rfl rfl rfl (by decide +kernel) ⟨Nat.le_of_ble_eq_true rfl, Nat.le_of_ble_eq_true rfl⟩) (wPreV hP hD hK [0, 1, 2, 3, 4, 5, 6, 7, 8, 9, 10, 11, 12, 13, 14, 15] rfl rfl (ci := 4) (qb := 0) rfl rfl rfl) rfl rfl hl.1 rfl (lv_room (Nat.le_of_ble_eq_true rfl)) dX4_takeAway_14 ⟨Nat.zero_le _, Nat.zero_le _⟩) hP hD hS hA [0, 1, 2, 3, 4, 5, 6, 7, 8, 9, 10, 11, 12, 13, 14, 15] [] [0, 1, 2, 3, 4, 5, 6, 7, 8, 9, 10, 11, 12, 13, 14, 15] rfl rfl rfl (by decide) rfl rfl (fun H locs hP hD hS => ?_)
  refine lv_aload_n hx hb dX4_takeAway_17 rfl (lv_at hl 0 rfl) ?_
  refine va_get (D := G.1) (ci := 4) (v := .ref l0) (C := RX4) (T := TX4) (N := 4) hx hb hts hinX4 hown hK.1 hP 0 rfl rfl 0 (by decide) lk10 (fun _ h9 => h9) rfl dX4_takeAway_18 ?_
  obtain ⟨u_577, hc_578, h⟩ := bd_inv h
  refine wafter_i (wr := [(c0, .inr (4, [.ref l0, .ref m0, .ref r0, .ref g0])), (m0, .inr (2, [.ref m1, .ref m2, .ref m3, .ref m4, .ref m5, .int u_575.2.2.2.2.2.1])), (m1, .inl (G.2.1, 36, .inl u_575.1)), (m2, .inl (G.2.1, 36, .inl u_575.2.1)), (m3, .inl (G.2.1, 36, .inl u_575.2.2.1)), (m4, .inl (G.2.1, 36, .inl u_575.2.2.2.1)), (m5, .inl (G.2.1, 36, .inl u_575.2.2.2.2.1)), (r0, .inr (3, [.ref r1, .ref r2, .ref r3, .int u_575.2.2.2.2.2.2.2.2])), (r1, .inl (G.2.1, 46, .inl u_575.2.2.2.2.2.2.1)), (r2, .inl (G.2.1, 512, .inl u_575.2.2.2.2.2.2.2.1)), (r3, .inl (G.2.1, 512, .inl r_w)), (g0, .inr (0, [.long g_e]))]) (w2 := (w_C G c0 l0 l1 l2 l3 m0 m1 m2 m3 m4 m5 r0 r1 r2 r3 g0 g_e u_573.1 u_573.2.1 u_573.2.2.1 u_573.2.2.2 u_575.1 u_575.2.1 u_575.2.2.1 u_575.2.2.2.1 u_575.2.2.2.2.1 u_575.2.2.2.2.2.1 u_575.2.2.2.2.2.2.1 u_575.2.2.2.2.2.2.2.1 r_w u_575.2.2.2.2.2.2.2.2)) (va_runV (As := []) (rest := []) ⟨hx, hb, hml, hown, hts⟩ (kX1_count (l := l) (G := G) l0 l1 l2 l3 u_573.1 u_573.2.1 u_573.2.2.1 u_573.2.2.2  N u_577 hc_578 _) (cwV 0 hts gX4_takeAway_X1_count rfl rfl rfl (by decide +kernel) ⟨Nat.le_of_ble_eq_true rfl, Nat.le_of_ble_eq_true rfl⟩) (wPreV hP hD hK [1, 2, 3, 4] rfl rfl (ci := 1) (qb := 1) rfl rfl rfl) rfl rfl hl.1 rfl (lv_room (Nat.le_of_ble_eq_true rfl)) dX4_takeAway_21 ⟨Nat.zero_le _, Nat.zero_le _⟩) hP hD hS hA [1, 2, 3, 4] [0, 5, 6, 7, 8, 9, 10, 11, 12, 13, 14, 15] [0, 12, 13, 14, 15, 1, 2, 3, 4, 5, 6, 7, 8, 9, 10, 11] rfl rfl rfl (by decide) rfl rfl (fun H locs hP hD hS => ?_)
  obtain rfl := Sum.inr.inj (Option.some.inj h)
  exact wri hx hb hr hlocks hP hD hS (Nat.le_of_ble_eq_true rfl) (Nat.le_of_ble_eq_true rfl) rfl dX4_takeAway_24
def fX4_meets (N : Nat) (m_n : Int32) : Option (Int32) := bd (fX2_count N m_n) (fun u_579 => some u_579)
set_option maxHeartbeats 4000000 in
set_option maxRecDepth 100000 in
theorem kX4_meets {l : Launch} {G : wG} (c0 l0 l1 l2 l3 m0 m1 m2 m3 m4 m5 r0 r1 r2 r3 g0 : Nat) (g_e : Int64) (l_a : Nat → Int32) (l_b : Nat → Int32) (l_c : Nat → Int32) (l_n : Int32) (m_x : Nat → Int32) (m_y : Nat → Int32) (m_d : Nat → Int32) (m_t : Nat → Int32) (m_v : Nat → Int32) (m_n : Int32) (r_s : Nat → Int32) (r_n : Nat → Int32) (r_w : Nat → Int32) (r_k : Int32) (N : Nat) (v : Int32) (h : fX4_meets N m_n = some v) : wCi l G yX4_meets wsX4_meets ({ frames := 1, cells := 0, slots := 0, locals := 20 } : Room) [.ref c0] (w_C G c0 l0 l1 l2 l3 m0 m1 m2 m3 m4 m5 r0 r1 r2 r3 g0 g_e l_a l_b l_c l_n m_x m_y m_d m_t m_v m_n r_s r_n r_w r_k) (w_C G c0 l0 l1 l2 l3 m0 m1 m2 m3 m4 m5 r0 r1 r2 r3 g0 g_e l_a l_b l_c l_n m_x m_y m_d m_t m_v m_n r_s r_n r_w r_k) 0 0 v := by
  refine wCi.mk (cc := cX4_meets) (maxL := 1) (ty := .int) (by decide) rfl (Nat.le_of_ble_eq_true rfl) ?_
  intro p e s m below meth c A ls hx hb hml hr hlocks hts hown hK hA hP hD hl
  have hx : p.tables.exec = Jvm.exec := hx
  have hown : s.vm.findClass RX4 = some m.cls := hown
  have hinX4 : ∀ w ∈ wsX40, w ∈ wsX4_meets := by decide +kernel
  have lk19 := hts (.fieldLink RX4 19 "Chamberwright" "meets" "LChamberwright$Meets;") (by decide +kernel)
  have hS : va_S A s.heap s.heap [] := va_S.rf
  have hP : va_P G.1 vwCl (w_C G c0 l0 l1 l2 l3 m0 m1 m2 m3 m4 m5 r0 r1 r2 r3 g0 g_e l_a l_b l_c l_n m_x m_y m_d m_t m_v m_n r_s r_n r_w r_k) s.heap := hP
  have hD : va_D A (w_C G c0 l0 l1 l2 l3 m0 m1 m2 m3 m4 m5 r0 r1 r2 r3 g0 g_e l_a l_b l_c l_n m_x m_y m_d m_t m_v m_n r_s r_n r_w r_k) := hD
  have hl : lv_has ls 1 [(0, .ref c0)] := hl
  obtain ⟨args, hargs⟩ : ∃ z : Array Value, z = ([.ref c0] : List Value).toArray := ⟨_, rfl⟩
  rw [← hargs]
  rw [← hargs] at hts
  rw [fX4_meets.eq_1] at h
  refine lv_aload_n hx hb dX4_meets_0 rfl (lv_at hl 0 rfl) ?_
  refine va_get (D := G.1) (ci := 4) (v := .ref m0) (C := RX4) (T := TX4) (N := 4) hx hb hts hinX4 hown hK.1 hP 0 rfl rfl 1 (by decide) lk19 (fun _ h9 => h9) rfl dX4_meets_1 ?_
  obtain ⟨u_579, hc_580, h⟩ := bd_inv h
  refine wafter_i (wr := [(c0, .inr (4, [.ref l0, .ref m0, .ref r0, .ref g0])), (l0, .inr (1, [.ref l1, .ref l2, .ref l3, .int l_n])), (l1, .inl (G.2.1, 9, .inl l_a)), (l2, .inl (G.2.1, 9, .inl l_b)), (l3, .inl (G.2.1, 9, .inl l_c)), (r0, .inr (3, [.ref r1, .ref r2, .ref r3, .int r_k])), (r1, .inl (G.2.1, 46, .inl r_s)), (r2, .inl (G.2.1, 512, .inl r_n)), (r3, .inl (G.2.1, 512, .inl r_w)), (g0, .inr (0, [.long g_e]))]) (w2 := (w_C G c0 l0 l1 l2 l3 m0 m1 m2 m3 m4 m5 r0 r1 r2 r3 g0 g_e l_a l_b l_c l_n m_x m_y m_d m_t m_v m_n r_s r_n r_w r_k)) (va_runV (As := []) (rest := []) ⟨hx, hb, hml, hown, hts⟩ (kX2_count (l := l) (G := G) m0 m1 m2 m3 m4 m5 m_x m_y m_d m_t m_v m_n  N u_579 hc_580 _) (cwV 0 hts gX4_meets_X2_count rfl rfl rfl (by decide +kernel) ⟨Nat.le_of_ble_eq_true rfl, Nat.le_of_ble_eq_true rfl⟩) (wPreV hP hD hK [5, 6, 7, 8, 9, 10] rfl rfl (ci := 2) (qb := 5) rfl rfl rfl) rfl rfl hl.1 rfl (lv_room (Nat.le_of_ble_eq_true rfl)) dX4_meets_4 ⟨Nat.zero_le _, Nat.zero_le _⟩) hP hD hS hA [5, 6, 7, 8, 9, 10] [0, 1, 2, 3, 4, 11, 12, 13, 14, 15] [0, 1, 2, 3, 4, 10, 11, 12, 13, 14, 15, 5, 6, 7, 8, 9] rfl rfl rfl (by decide) rfl rfl (fun H locs hP hD hS => ?_)
  obtain rfl := Option.some.inj h
  exact wri hx hb hr hlocks hP hD hS (Nat.le_of_ble_eq_true rfl) (Nat.le_of_ble_eq_true rfl) rfl dX4_meets_7
def fX4_checkMeet (N : Nat) (m_n : Int32) (x1 : Int32) : Option (String ⊕ (Unit)) := if x1 < 0 then some (.inl xIOO) else bd (fX2_count N m_n) (fun u_582 => if x1 < u_582 then some (.inr ()) else some (.inl xIOO))
set_option maxHeartbeats 4000000 in
set_option maxRecDepth 100000 in
theorem nX4_checkMeet {l : Launch} {G : wG} (c0 l0 l1 l2 l3 m0 m1 m2 m3 m4 m5 r0 r1 r2 r3 g0 : Nat) (g_e : Int64) (l_a : Nat → Int32) (l_b : Nat → Int32) (l_c : Nat → Int32) (l_n : Int32) (m_x : Nat → Int32) (m_y : Nat → Int32) (m_d : Nat → Int32) (m_t : Nat → Int32) (m_v : Nat → Int32) (m_n : Int32) (r_s : Nat → Int32) (r_n : Nat → Int32) (r_w : Nat → Int32) (r_k : Int32) (x1 : Int32) (N : Nat) (v : Unit) (h : fX4_checkMeet N m_n x1 = some (.inr v)) : wCv l G yX4_checkMeet wsX4_checkMeet ({ frames := 6, cells := 0, slots := 0, locals := 100 } : Room) [.ref c0, .int x1] (w_C G c0 l0 l1 l2 l3 m0 m1 m2 m3 m4 m5 r0 r1 r2 r3 g0 g_e l_a l_b l_c l_n m_x m_y m_d m_t m_v m_n r_s r_n r_w r_k) (w_C G c0 l0 l1 l2 l3 m0 m1 m2 m3 m4 m5 r0 r1 r2 r3 g0 g_e l_a l_b l_c l_n m_x m_y m_d m_t m_v m_n r_s r_n r_w r_k) 0 0 := by
  refine wCv.mk (cc := cX4_checkMeet) (maxL := 2) (by decide) rfl (Nat.le_of_ble_eq_true rfl) ?_
  intro p e s m below meth c A ls hx hb hml hr hlocks hts hown hK hA hP hD hl
  have hx : p.tables.exec = Jvm.exec := hx
  have hown : s.vm.findClass RX4 = some m.cls := hown
  have hinX4 : ∀ w ∈ wsX40, w ∈ wsX4_checkMeet := by decide +kernel
  have lk19 := hts (.fieldLink RX4 19 "Chamberwright" "meets" "LChamberwright$Meets;") (by decide +kernel)
  have hS : va_S A s.heap s.heap [] := va_S.rf
  have hP : va_P G.1 vwCl (w_C G c0 l0 l1 l2 l3 m0 m1 m2 m3 m4 m5 r0 r1 r2 r3 g0 g_e l_a l_b l_c l_n m_x m_y m_d m_t m_v m_n r_s r_n r_w r_k) s.heap := hP
  have hD : va_D A (w_C G c0 l0 l1 l2 l3 m0 m1 m2 m3 m4 m5 r0 r1 r2 r3 g0 g_e l_a l_b l_c l_n m_x m_y m_d m_t m_v m_n r_s r_n r_w r_k) := hD
  have hl : lv_has ls 2 [(0, .ref c0), (1, .int x1)] := hl
  obtain ⟨args, hargs⟩ : ∃ z : Array Value, z = ([.ref c0, .int x1] : List Value).toArray := ⟨_, rfl⟩
  rw [← hargs]
  rw [← hargs] at hts
  rw [fX4_checkMeet.eq_1] at h
  refine lv_iload_n hx hb dX4_checkMeet_0 rfl (lv_at hl 1 rfl) ?_
  refine lv_if_lt (tgt := 15) hx hb dX4_checkMeet_1 (by decide) (fun c_581 => ?_) (fun c_581 => ?_)
  · have h := ip c_581 h
    cases h
  · have h := iq c_581 h
    refine lv_iload_n hx hb dX4_checkMeet_4 rfl (lv_at hl 1 rfl) ?_
    refine lv_aload_n hx hb dX4_checkMeet_5 rfl (lv_at hl 0 rfl) ?_
    refine va_get (D := G.1) (ci := 4) (v := .ref m0) (C := RX4) (T := TX4) (N := 4) hx hb hts hinX4 hown hK.1 hP 0 rfl rfl 1 (by decide) lk19 (fun _ h9 => h9) rfl dX4_checkMeet_6 ?_
    obtain ⟨u_582, hc_583, h⟩ := bd_inv h
    refine wafter_i (wr := [(c0, .inr (4, [.ref l0, .ref m0, .ref r0, .ref g0])), (l0, .inr (1, [.ref l1, .ref l2, .ref l3, .int l_n])), (l1, .inl (G.2.1, 9, .inl l_a)), (l2, .inl (G.2.1, 9, .inl l_b)), (l3, .inl (G.2.1, 9, .inl l_c)), (r0, .inr (3, [.ref r1, .ref r2, .ref r3, .int r_k])), (r1, .inl (G.2.1, 46, .inl r_s)), (r2, .inl (G.2.1, 512, .inl r_n)), (r3, .inl (G.2.1, 512, .inl r_w)), (g0, .inr (0, [.long g_e]))]) (w2 := (w_C G c0 l0 l1 l2 l3 m0 m1 m2 m3 m4 m5 r0 r1 r2 r3 g0 g_e l_a l_b l_c l_n m_x m_y m_d m_t m_v m_n r_s r_n r_w r_k)) (va_runV (As := []) (rest := [.int x1]) ⟨hx, hb, hml, hown, hts⟩ (kX2_count (l := l) (G := G) m0 m1 m2 m3 m4 m5 m_x m_y m_d m_t m_v m_n  N u_582 hc_583 _) (cwV 0 hts gX4_checkMeet_X2_count rfl rfl rfl (by decide +kernel) ⟨Nat.le_of_ble_eq_true rfl, Nat.le_of_ble_eq_true rfl⟩) (wPreV hP hD hK [5, 6, 7, 8, 9, 10] rfl rfl (ci := 2) (qb := 5) rfl rfl rfl) rfl rfl hl.1 rfl (lv_room (Nat.le_of_ble_eq_true rfl)) dX4_checkMeet_9 ⟨Nat.zero_le _, Nat.zero_le _⟩) hP hD hS hA [5, 6, 7, 8, 9, 10] [0, 1, 2, 3, 4, 11, 12, 13, 14, 15] [0, 1, 2, 3, 4, 10, 11, 12, 13, 14, 15, 5, 6, 7, 8, 9] rfl rfl rfl (by decide) rfl rfl (fun H locs hP hD hS => ?_)
    refine lv_icmp_lt (tgt := 25) hx hb dX4_checkMeet_12 (by decide) (fun c_584 => ?_) (fun c_584 => ?_)
    · have h := ip c_584 h
      obtain rfl := Sum.inr.inj (Option.some.inj h)
      exact wrv hx hb hr hlocks hP hD hS (Nat.le_of_ble_eq_true rfl) (Nat.le_of_ble_eq_true rfl) dX4_checkMeet_25
    · have h := iq c_584 h
      cases h
def fX4_meet (N : Nat) (m_x : Nat → Int32) (m_y : Nat → Int32) (m_d : Nat → Int32) (m_t : Nat → Int32) (m_n : Int32) (x1 : Int32) (x2 : Int32) : Option (String ⊕ (Int32)) := bdx (fX4_checkMeet N m_n x1) (fun u_585 => if x2 = 0 then bd (fX2_x N m_x x1) (fun u_588 => some (.inr u_588)) else if x2 = 1 then bd (fX2_y N m_y x1) (fun u_591 => some (.inr u_591)) else if x2 = 2 then bd (fX2_d N m_d x1) (fun u_594 => some (.inr u_594)) else if x2 = 3 then bd (fX2_through N m_t x1) (fun u_597 => some (.inr u_597)) else some (.inl xIAE))
set_option maxHeartbeats 4000000 in
set_option maxRecDepth 100000 in
theorem nX4_meet {l : Launch} {G : wG} (c0 l0 l1 l2 l3 m0 m1 m2 m3 m4 m5 r0 r1 r2 r3 g0 : Nat) (g_e : Int64) (l_a : Nat → Int32) (l_b : Nat → Int32) (l_c : Nat → Int32) (l_n : Int32) (m_x : Nat → Int32) (m_y : Nat → Int32) (m_d : Nat → Int32) (m_t : Nat → Int32) (m_v : Nat → Int32) (m_n : Int32) (r_s : Nat → Int32) (r_n : Nat → Int32) (r_w : Nat → Int32) (r_k : Int32) (x1 : Int32) (x2 : Int32) (N : Nat) (v : Int32) (h : fX4_meet N m_x m_y m_d m_t m_n x1 x2 = some (.inr v)) : wCi l G yX4_meet wsX4_meet ({ frames := 7, cells := 0, slots := 0, locals := 121 } : Room) [.ref c0, .int x1, .int x2] (w_C G c0 l0 l1 l2 l3 m0 m1 m2 m3 m4 m5 r0 r1 r2 r3 g0 g_e l_a l_b l_c l_n m_x m_y m_d m_t m_v m_n r_s r_n r_w r_k) (w_C G c0 l0 l1 l2 l3 m0 m1 m2 m3 m4 m5 r0 r1 r2 r3 g0 g_e l_a l_b l_c l_n m_x m_y m_d m_t m_v m_n r_s r_n r_w r_k) 0 0 v := by
  refine wCi.mk (cc := cX4_meet) (maxL := 3) (ty := .int) (by decide) rfl (Nat.le_of_ble_eq_true rfl) ?_
  intro p e s m below meth c A ls hx hb hml hr hlocks hts hown hK hA hP hD hl
  have hx : p.tables.exec = Jvm.exec := hx
  have hown : s.vm.findClass RX4 = some m.cls := hown
  have hinX4 : ∀ w ∈ wsX40, w ∈ wsX4_meet := by decide +kernel
  have lk19 := hts (.fieldLink RX4 19 "Chamberwright" "meets" "LChamberwright$Meets;") (by decide +kernel)
  have hS : va_S A s.heap s.heap [] := va_S.rf
  have hP : va_P G.1 vwCl (w_C G c0 l0 l1 l2 l3 m0 m1 m2 m3 m4 m5 r0 r1 r2 r3 g0 g_e l_a l_b l_c l_n m_x m_y m_d m_t m_v m_n r_s r_n r_w r_k) s.heap := hP
  have hD : va_D A (w_C G c0 l0 l1 l2 l3 m0 m1 m2 m3 m4 m5 r0 r1 r2 r3 g0 g_e l_a l_b l_c l_n m_x m_y m_d m_t m_v m_n r_s r_n r_w r_k) := hD
  have hl : lv_has ls 3 [(0, .ref c0), (1, .int x1), (2, .int x2)] := hl
  obtain ⟨args, hargs⟩ : ∃ z : Array Value, z = ([.ref c0, .int x1, .int x2] : List Value).toArray := ⟨_, rfl⟩
  rw [← hargs]
  rw [← hargs] at hts
  rw [fX4_meet.eq_1] at h
  refine lv_aload_n hx hb dX4_meet_0 rfl (lv_at hl 0 rfl) ?_
  refine lv_iload_n hx hb dX4_meet_1 rfl (lv_at hl 1 rfl) ?_
  obtain ⟨u_585, hc_586, h⟩ := bdx_n h
  refine wafter_v (wr := []) (w2 := (w_C G c0 l0 l1 l2 l3 m0 m1 m2 m3 m4 m5 r0 r1 r2 r3 g0 g_e l_a l_b l_c l_n m_x m_y m_d m_t m_v m_n r_s r_n r_w r_k)) (va_runV (As := [.int x1]) (rest := []) ⟨hx, hb, hml, hown, hts⟩ (nX4_checkMeet (l := l) (G := G) c0 l0 l1 l2 l3 m0 m1 m2 m3 m4 m5 r0 r1 r2 r3 g0 g_e l_a l_b l_c l_n m_x m_y m_d m_t m_v m_n r_s r_n r_w r_k x1 N u_585 hc_586 _) (cwV 1 hts gX4_meet_X4_checkMeet rfl rfl rfl (by decide +kernel) ⟨Nat.le_of_ble_eq_true rfl, Nat.le_of_ble_eq_true rfl⟩) (wPreV hP hD hK [0, 1, 2, 3, 4, 5, 6, 7, 8, 9, 10, 11, 12, 13, 14, 15] rfl rfl (ci := 4) (qb := 0) rfl rfl rfl) rfl rfl hl.1 rfl (lv_room (Nat.le_of_ble_eq_true rfl)) dX4_meet_2 ⟨Nat.zero_le _, Nat.zero_le _⟩) hP hD hS hA [0, 1, 2, 3, 4, 5, 6, 7, 8, 9, 10, 11, 12, 13, 14, 15] [] [0, 1, 2, 3, 4, 5, 6, 7, 8, 9, 10, 11, 12, 13, 14, 15] rfl rfl rfl (by decide) rfl rfl (fun H locs hP hD hS => ?_)
  refine lv_iload_n hx hb dX4_meet_5 rfl (lv_at hl 2 rfl) ?_
  by_cases c_587 : x2 = 0
  · have h := ip c_587 h
    refine lv_tableIn (tgt := 36) hx hb dX4_meet_6 (by rw [c_587]; decide) (by rw [c_587]; decide) (by rw [c_587]; rfl) (by decide) ?_
    refine lv_aload_n hx hb dX4_meet_36 rfl (lv_at hl 0 rfl) ?_
    refine va_get (D := G.1) (ci := 4) (v := .ref m0) (C := RX4) (T := TX4) (N := 4) hx hb hts hinX4 hown hK.1 hP 0 rfl rfl 1 (by decide) lk19 (fun _ h9 => h9) rfl dX4_meet_37 ?_
    refine lv_iload_n hx hb dX4_meet_40 rfl (lv_at hl 1 rfl) ?_
    obtain ⟨u_588, hc_589, h⟩ := bd_inv h
    refine wafter_i (wr := [(c0, .inr (4, [.ref l0, .ref m0, .ref r0, .ref g0])), (l0, .inr (1, [.ref l1, .ref l2, .ref l3, .int l_n])), (l1, .inl (G.2.1, 9, .inl l_a)), (l2, .inl (G.2.1, 9, .inl l_b)), (l3, .inl (G.2.1, 9, .inl l_c)), (r0, .inr (3, [.ref r1, .ref r2, .ref r3, .int r_k])), (r1, .inl (G.2.1, 46, .inl r_s)), (r2, .inl (G.2.1, 512, .inl r_n)), (r3, .inl (G.2.1, 512, .inl r_w)), (g0, .inr (0, [.long g_e]))]) (w2 := (w_C G c0 l0 l1 l2 l3 m0 m1 m2 m3 m4 m5 r0 r1 r2 r3 g0 g_e l_a l_b l_c l_n m_x m_y m_d m_t m_v m_n r_s r_n r_w r_k)) (va_runV (As := [.int x1]) (rest := []) ⟨hx, hb, hml, hown, hts⟩ (kX2_x (l := l) (G := G) m0 m1 m2 m3 m4 m5 m_x m_y m_d m_t m_v m_n x1 N u_588 hc_589 _) (cwV 1 hts gX4_meet_X2_x rfl rfl rfl (by decide +kernel) ⟨Nat.le_of_ble_eq_true rfl, Nat.le_of_ble_eq_true rfl⟩) (wPreV hP hD hK [5, 6, 7, 8, 9, 10] rfl rfl (ci := 2) (qb := 5) rfl rfl rfl) rfl rfl hl.1 rfl (lv_room (Nat.le_of_ble_eq_true rfl)) dX4_meet_41 ⟨Nat.zero_le _, Nat.zero_le _⟩) hP hD hS hA [5, 6, 7, 8, 9, 10] [0, 1, 2, 3, 4, 11, 12, 13, 14, 15] [0, 1, 2, 3, 4, 10, 11, 12, 13, 14, 15, 5, 6, 7, 8, 9] rfl rfl rfl (by decide) rfl rfl (fun H locs hP hD hS => ?_)
    obtain rfl := Sum.inr.inj (Option.some.inj h)
    exact wri hx hb hr hlocks hP hD hS (Nat.le_of_ble_eq_true rfl) (Nat.le_of_ble_eq_true rfl) rfl dX4_meet_44
  · have h := iq c_587 h
    by_cases c_590 : x2 = 1
    · have h := ip c_590 h
      refine lv_tableIn (tgt := 45) hx hb dX4_meet_6 (by rw [c_590]; decide) (by rw [c_590]; decide) (by rw [c_590]; rfl) (by decide) ?_
      refine lv_aload_n hx hb dX4_meet_45 rfl (lv_at hl 0 rfl) ?_
      refine va_get (D := G.1) (ci := 4) (v := .ref m0) (C := RX4) (T := TX4) (N := 4) hx hb hts hinX4 hown hK.1 hP 0 rfl rfl 1 (by decide) lk19 (fun _ h9 => h9) rfl dX4_meet_46 ?_
      refine lv_iload_n hx hb dX4_meet_49 rfl (lv_at hl 1 rfl) ?_
      obtain ⟨u_591, hc_592, h⟩ := bd_inv h
      refine wafter_i (wr := [(c0, .inr (4, [.ref l0, .ref m0, .ref r0, .ref g0])), (l0, .inr (1, [.ref l1, .ref l2, .ref l3, .int l_n])), (l1, .inl (G.2.1, 9, .inl l_a)), (l2, .inl (G.2.1, 9, .inl l_b)), (l3, .inl (G.2.1, 9, .inl l_c)), (r0, .inr (3, [.ref r1, .ref r2, .ref r3, .int r_k])), (r1, .inl (G.2.1, 46, .inl r_s)), (r2, .inl (G.2.1, 512, .inl r_n)), (r3, .inl (G.2.1, 512, .inl r_w)), (g0, .inr (0, [.long g_e]))]) (w2 := (w_C G c0 l0 l1 l2 l3 m0 m1 m2 m3 m4 m5 r0 r1 r2 r3 g0 g_e l_a l_b l_c l_n m_x m_y m_d m_t m_v m_n r_s r_n r_w r_k)) (va_runV (As := [.int x1]) (rest := []) ⟨hx, hb, hml, hown, hts⟩ (kX2_y (l := l) (G := G) m0 m1 m2 m3 m4 m5 m_x m_y m_d m_t m_v m_n x1 N u_591 hc_592 _) (cwV 1 hts gX4_meet_X2_y rfl rfl rfl (by decide +kernel) ⟨Nat.le_of_ble_eq_true rfl, Nat.le_of_ble_eq_true rfl⟩) (wPreV hP hD hK [5, 6, 7, 8, 9, 10] rfl rfl (ci := 2) (qb := 5) rfl rfl rfl) rfl rfl hl.1 rfl (lv_room (Nat.le_of_ble_eq_true rfl)) dX4_meet_50 ⟨Nat.zero_le _, Nat.zero_le _⟩) hP hD hS hA [5, 6, 7, 8, 9, 10] [0, 1, 2, 3, 4, 11, 12, 13, 14, 15] [0, 1, 2, 3, 4, 10, 11, 12, 13, 14, 15, 5, 6, 7, 8, 9] rfl rfl rfl (by decide) rfl rfl (fun H locs hP hD hS => ?_)
      obtain rfl := Sum.inr.inj (Option.some.inj h)
      exact wri hx hb hr hlocks hP hD hS (Nat.le_of_ble_eq_true rfl) (Nat.le_of_ble_eq_true rfl) rfl dX4_meet_53
    · have h := iq c_590 h
      by_cases c_593 : x2 = 2
      · have h := ip c_593 h
        refine lv_tableIn (tgt := 54) hx hb dX4_meet_6 (by rw [c_593]; decide) (by rw [c_593]; decide) (by rw [c_593]; rfl) (by decide) ?_
        refine lv_aload_n hx hb dX4_meet_54 rfl (lv_at hl 0 rfl) ?_
        refine va_get (D := G.1) (ci := 4) (v := .ref m0) (C := RX4) (T := TX4) (N := 4) hx hb hts hinX4 hown hK.1 hP 0 rfl rfl 1 (by decide) lk19 (fun _ h9 => h9) rfl dX4_meet_55 ?_
        refine lv_iload_n hx hb dX4_meet_58 rfl (lv_at hl 1 rfl) ?_
        obtain ⟨u_594, hc_595, h⟩ := bd_inv h
        refine wafter_i (wr := [(c0, .inr (4, [.ref l0, .ref m0, .ref r0, .ref g0])), (l0, .inr (1, [.ref l1, .ref l2, .ref l3, .int l_n])), (l1, .inl (G.2.1, 9, .inl l_a)), (l2, .inl (G.2.1, 9, .inl l_b)), (l3, .inl (G.2.1, 9, .inl l_c)), (r0, .inr (3, [.ref r1, .ref r2, .ref r3, .int r_k])), (r1, .inl (G.2.1, 46, .inl r_s)), (r2, .inl (G.2.1, 512, .inl r_n)), (r3, .inl (G.2.1, 512, .inl r_w)), (g0, .inr (0, [.long g_e]))]) (w2 := (w_C G c0 l0 l1 l2 l3 m0 m1 m2 m3 m4 m5 r0 r1 r2 r3 g0 g_e l_a l_b l_c l_n m_x m_y m_d m_t m_v m_n r_s r_n r_w r_k)) (va_runV (As := [.int x1]) (rest := []) ⟨hx, hb, hml, hown, hts⟩ (kX2_d (l := l) (G := G) m0 m1 m2 m3 m4 m5 m_x m_y m_d m_t m_v m_n x1 N u_594 hc_595 _) (cwV 1 hts gX4_meet_X2_d rfl rfl rfl (by decide +kernel) ⟨Nat.le_of_ble_eq_true rfl, Nat.le_of_ble_eq_true rfl⟩) (wPreV hP hD hK [5, 6, 7, 8, 9, 10] rfl rfl (ci := 2) (qb := 5) rfl rfl rfl) rfl rfl hl.1 rfl (lv_room (Nat.le_of_ble_eq_true rfl)) dX4_meet_59 ⟨Nat.zero_le _, Nat.zero_le _⟩) hP hD hS hA [5, 6, 7, 8, 9, 10] [0, 1, 2, 3, 4, 11, 12, 13, 14, 15] [0, 1, 2, 3, 4, 10, 11, 12, 13, 14, 15, 5, 6, 7, 8, 9] rfl rfl rfl (by decide) rfl rfl (fun H locs hP hD hS => ?_)
        obtain rfl := Sum.inr.inj (Option.some.inj h)
        exact wri hx hb hr hlocks hP hD hS (Nat.le_of_ble_eq_true rfl) (Nat.le_of_ble_eq_true rfl) rfl dX4_meet_62
      · have h := iq c_593 h
        by_cases c_596 : x2 = 3
        · have h := ip c_596 h
          refine lv_tableIn (tgt := 63) hx hb dX4_meet_6 (by rw [c_596]; decide) (by rw [c_596]; decide) (by rw [c_596]; rfl) (by decide) ?_
          refine lv_aload_n hx hb dX4_meet_63 rfl (lv_at hl 0 rfl) ?_
          refine va_get (D := G.1) (ci := 4) (v := .ref m0) (C := RX4) (T := TX4) (N := 4) hx hb hts hinX4 hown hK.1 hP 0 rfl rfl 1 (by decide) lk19 (fun _ h9 => h9) rfl dX4_meet_64 ?_
          refine lv_iload_n hx hb dX4_meet_67 rfl (lv_at hl 1 rfl) ?_
          obtain ⟨u_597, hc_598, h⟩ := bd_inv h
          refine wafter_i (wr := [(c0, .inr (4, [.ref l0, .ref m0, .ref r0, .ref g0])), (l0, .inr (1, [.ref l1, .ref l2, .ref l3, .int l_n])), (l1, .inl (G.2.1, 9, .inl l_a)), (l2, .inl (G.2.1, 9, .inl l_b)), (l3, .inl (G.2.1, 9, .inl l_c)), (r0, .inr (3, [.ref r1, .ref r2, .ref r3, .int r_k])), (r1, .inl (G.2.1, 46, .inl r_s)), (r2, .inl (G.2.1, 512, .inl r_n)), (r3, .inl (G.2.1, 512, .inl r_w)), (g0, .inr (0, [.long g_e]))]) (w2 := (w_C G c0 l0 l1 l2 l3 m0 m1 m2 m3 m4 m5 r0 r1 r2 r3 g0 g_e l_a l_b l_c l_n m_x m_y m_d m_t m_v m_n r_s r_n r_w r_k)) (va_runV (As := [.int x1]) (rest := []) ⟨hx, hb, hml, hown, hts⟩ (kX2_through (l := l) (G := G) m0 m1 m2 m3 m4 m5 m_x m_y m_d m_t m_v m_n x1 N u_597 hc_598 _) (cwV 1 hts gX4_meet_X2_through rfl rfl rfl (by decide +kernel) ⟨Nat.le_of_ble_eq_true rfl, Nat.le_of_ble_eq_true rfl⟩) (wPreV hP hD hK [5, 6, 7, 8, 9, 10] rfl rfl (ci := 2) (qb := 5) rfl rfl rfl) rfl rfl hl.1 rfl (lv_room (Nat.le_of_ble_eq_true rfl)) dX4_meet_68 ⟨Nat.zero_le _, Nat.zero_le _⟩) hP hD hS hA [5, 6, 7, 8, 9, 10] [0, 1, 2, 3, 4, 11, 12, 13, 14, 15] [0, 1, 2, 3, 4, 10, 11, 12, 13, 14, 15, 5, 6, 7, 8, 9] rfl rfl rfl (by decide) rfl rfl (fun H locs hP hD hS => ?_)
          obtain rfl := Sum.inr.inj (Option.some.inj h)
          exact wri hx hb hr hlocks hP hD hS (Nat.le_of_ble_eq_true rfl) (Nat.le_of_ble_eq_true rfl) rfl dX4_meet_71
        · have h := iq c_596 h
          refine lv_tableOut (tgt := 72) hx hb dX4_meet_6 (w_sw3 c_587 c_590 c_593 c_596) (by decide) ?_
          cases h
def fX4_checkPower (N : Nat) (x0 : Int32) : Option (String ⊕ (Unit)) := if x0 < 0 then some (.inl xIAE) else if x0 ≤ 2 then some (.inr ()) else some (.inl xIAE)
set_option maxHeartbeats 4000000 in
set_option maxRecDepth 100000 in
theorem nX4_checkPower {l : Launch} {G : wG} (x0 : Int32) (N : Nat) (v : Unit) (h : fX4_checkPower N x0 = some (.inr v)) : wCv l G yX4_checkPower wsX4_checkPower ({ frames := 6, cells := 0, slots := 0, locals := 100 } : Room) [.int x0] [] [] 0 0 := by
  refine wCv.mk (cc := cX4_checkPower) (maxL := 1) (by decide) rfl (Nat.le_of_ble_eq_true rfl) ?_
  intro p e s m below meth c A ls hx hb hml hr hlocks hts hown hK hA hP hD hl
  have hx : p.tables.exec = Jvm.exec := hx
  have hown : s.vm.findClass RX4 = some m.cls := hown
  have hS : va_S A s.heap s.heap [] := va_S.rf
  have hP : va_P G.1 vwCl [] s.heap := hP
  have hD : va_D A [] := hD
  have hl : lv_has ls 1 [(0, .int x0)] := hl
  obtain ⟨args, hargs⟩ : ∃ z : Array Value, z = ([.int x0] : List Value).toArray := ⟨_, rfl⟩
  rw [← hargs]
  rw [← hargs] at hts
  rw [fX4_checkPower.eq_1] at h
  refine lv_iload_n hx hb dX4_checkPower_0 rfl (lv_at hl 0 rfl) ?_
  refine lv_if_lt (tgt := 9) hx hb dX4_checkPower_1 (by decide) (fun c_599 => ?_) (fun c_599 => ?_)
  · have h := ip c_599 h
    cases h
  · have h := iq c_599 h
    refine lv_iload_n hx hb dX4_checkPower_4 rfl (lv_at hl 0 rfl) ?_
    refine lv_iconst (v := 2) hx hb dX4_checkPower_5 (by decide) ?_
    refine lv_icmp_le (tgt := 19) hx hb dX4_checkPower_6 (by decide) (fun c_600 => ?_) (fun c_600 => ?_)
    · have h := ip c_600 h
      obtain rfl := Sum.inr.inj (Option.some.inj h)
      exact wrv hx hb hr hlocks hP hD hS (Nat.le_of_ble_eq_true rfl) (Nat.le_of_ble_eq_true rfl) dX4_checkPower_19
    · have h := iq c_600 h
      cases h
def fX4_numberWithPower (N : Nat) (l_n : Int32) (x1 : Int32) (x2 : Int32) : Option (Int32) := if x1 = 2 then some 1 else if x1 = 1 then bd (fX1_count N l_n) (fun u_603 => some ((-u_603))) else some x2
set_option maxHeartbeats 4000000 in
set_option maxRecDepth 100000 in
theorem kX4_numberWithPower {l : Launch} {G : wG} (c0 l0 l1 l2 l3 m0 m1 m2 m3 m4 m5 r0 r1 r2 r3 g0 : Nat) (g_e : Int64) (l_a : Nat → Int32) (l_b : Nat → Int32) (l_c : Nat → Int32) (l_n : Int32) (m_x : Nat → Int32) (m_y : Nat → Int32) (m_d : Nat → Int32) (m_t : Nat → Int32) (m_v : Nat → Int32) (m_n : Int32) (r_s : Nat → Int32) (r_n : Nat → Int32) (r_w : Nat → Int32) (r_k : Int32) (x1 : Int32) (x2 : Int32) (N : Nat) (v : Int32) (h : fX4_numberWithPower N l_n x1 x2 = some v) : wCi l G yX4_numberWithPower wsX4_numberWithPower ({ frames := 1, cells := 0, slots := 0, locals := 20 } : Room) [.ref c0, .int x1, .int x2] (w_C G c0 l0 l1 l2 l3 m0 m1 m2 m3 m4 m5 r0 r1 r2 r3 g0 g_e l_a l_b l_c l_n m_x m_y m_d m_t m_v m_n r_s r_n r_w r_k) (w_C G c0 l0 l1 l2 l3 m0 m1 m2 m3 m4 m5 r0 r1 r2 r3 g0 g_e l_a l_b l_c l_n m_x m_y m_d m_t m_v m_n r_s r_n r_w r_k) 0 0 v := by
  refine wCi.mk (cc := cX4_numberWithPower) (maxL := 3) (ty := .int) (by decide) rfl (Nat.le_of_ble_eq_true rfl) ?_
  intro p e s m below meth c A ls hx hb hml hr hlocks hts hown hK hA hP hD hl
  have hx : p.tables.exec = Jvm.exec := hx
  have hown : s.vm.findClass RX4 = some m.cls := hown
  have hinX4 : ∀ w ∈ wsX40, w ∈ wsX4_numberWithPower := by decide +kernel
  have lk10 := hts (.fieldLink RX4 10 "Chamberwright" "lines" "LChamberwright$Lines;") (by decide +kernel)
  have hS : va_S A s.heap s.heap [] := va_S.rf
  have hP : va_P G.1 vwCl (w_C G c0 l0 l1 l2 l3 m0 m1 m2 m3 m4 m5 r0 r1 r2 r3 g0 g_e l_a l_b l_c l_n m_x m_y m_d m_t m_v m_n r_s r_n r_w r_k) s.heap := hP
  have hD : va_D A (w_C G c0 l0 l1 l2 l3 m0 m1 m2 m3 m4 m5 r0 r1 r2 r3 g0 g_e l_a l_b l_c l_n m_x m_y m_d m_t m_v m_n r_s r_n r_w r_k) := hD
  have hl : lv_has ls 3 [(0, .ref c0), (1, .int x1), (2, .int x2)] := hl
  obtain ⟨args, hargs⟩ : ∃ z : Array Value, z = ([.ref c0, .int x1, .int x2] : List Value).toArray := ⟨_, rfl⟩
  rw [← hargs]
  rw [← hargs] at hts
  rw [fX4_numberWithPower.eq_1] at h
  refine lv_iload_n hx hb dX4_numberWithPower_0 rfl (lv_at hl 1 rfl) ?_
  refine lv_iconst (v := 2) hx hb dX4_numberWithPower_1 (by decide) ?_
  refine lv_icmp_ne (tgt := 7) hx hb dX4_numberWithPower_2 (by decide) (fun c_601 => ?_) (fun c_601 => ?_)
  · have h := iq c_601 h
    refine lv_iload_n hx hb dX4_numberWithPower_7 rfl (lv_at hl 1 rfl) ?_
    refine lv_iconst (v := 1) hx hb dX4_numberWithPower_8 (by decide) ?_
    refine lv_icmp_ne (tgt := 23) hx hb dX4_numberWithPower_9 (by decide) (fun c_602 => ?_) (fun c_602 => ?_)
    · have h := iq c_602 h
      refine lv_iload_n hx hb dX4_numberWithPower_23 rfl (lv_at hl 2 rfl) ?_
      obtain rfl := Option.some.inj h
      exact wri hx hb hr hlocks hP hD hS (Nat.le_of_ble_eq_true rfl) (Nat.le_of_ble_eq_true rfl) rfl dX4_numberWithPower_24
    · have h := ip c_602 h
      refine lv_aload_n hx hb dX4_numberWithPower_12 rfl (lv_at hl 0 rfl) ?_
      refine va_get (D := G.1) (ci := 4) (v := .ref l0) (C := RX4) (T := TX4) (N := 4) hx hb hts hinX4 hown hK.1 hP 0 rfl rfl 0 (by decide) lk10 (fun _ h9 => h9) rfl dX4_numberWithPower_13 ?_
      obtain ⟨u_603, hc_604, h⟩ := bd_inv h
      refine wafter_i (wr := [(c0, .inr (4, [.ref l0, .ref m0, .ref r0, .ref g0])), (m0, .inr (2, [.ref m1, .ref m2, .ref m3, .ref m4, .ref m5, .int m_n])), (m1, .inl (G.2.1, 36, .inl m_x)), (m2, .inl (G.2.1, 36, .inl m_y)), (m3, .inl (G.2.1, 36, .inl m_d)), (m4, .inl (G.2.1, 36, .inl m_t)), (m5, .inl (G.2.1, 36, .inl m_v)), (r0, .inr (3, [.ref r1, .ref r2, .ref r3, .int r_k])), (r1, .inl (G.2.1, 46, .inl r_s)), (r2, .inl (G.2.1, 512, .inl r_n)), (r3, .inl (G.2.1, 512, .inl r_w)), (g0, .inr (0, [.long g_e]))]) (w2 := (w_C G c0 l0 l1 l2 l3 m0 m1 m2 m3 m4 m5 r0 r1 r2 r3 g0 g_e l_a l_b l_c l_n m_x m_y m_d m_t m_v m_n r_s r_n r_w r_k)) (va_runV (As := []) (rest := []) ⟨hx, hb, hml, hown, hts⟩ (kX1_count (l := l) (G := G) l0 l1 l2 l3 l_a l_b l_c l_n  N u_603 hc_604 _) (cwV 0 hts gX4_numberWithPower_X1_count rfl rfl rfl (by decide +kernel) ⟨Nat.le_of_ble_eq_true rfl, Nat.le_of_ble_eq_true rfl⟩) (wPreV hP hD hK [1, 2, 3, 4] rfl rfl (ci := 1) (qb := 1) rfl rfl rfl) rfl rfl hl.1 rfl (lv_room (Nat.le_of_ble_eq_true rfl)) dX4_numberWithPower_16 ⟨Nat.zero_le _, Nat.zero_le _⟩) hP hD hS hA [1, 2, 3, 4] [0, 5, 6, 7, 8, 9, 10, 11, 12, 13, 14, 15] [0, 12, 13, 14, 15, 1, 2, 3, 4, 5, 6, 7, 8, 9, 10, 11] rfl rfl rfl (by decide) rfl rfl (fun H locs hP hD hS => ?_)
      refine lv_ineg hx hb dX4_numberWithPower_19 ?_
      refine lv_goto (tgt := 24) hx hb dX4_numberWithPower_20 (by decide) ?_
      obtain rfl := Option.some.inj h
      exact wri hx hb hr hlocks hP hD hS (Nat.le_of_ble_eq_true rfl) (Nat.le_of_ble_eq_true rfl) rfl dX4_numberWithPower_24
  · have h := ip c_601 h
    refine lv_iconst (v := 1) hx hb dX4_numberWithPower_5 (by decide) ?_
    obtain rfl := Option.some.inj h
    exact wri hx hb hr hlocks hP hD hS (Nat.le_of_ble_eq_true rfl) (Nat.le_of_ble_eq_true rfl) rfl dX4_numberWithPower_6
def fX4_polynomial (N : Nat) (l_n : Int32) (m_t : Nat → Int32) (m_n : Int32) (x1 : Int32) : Option (String ⊕ (Int32)) := bdx (fX4_checkPower N x1) (fun u_605 => bd (fX2_surplus N m_t m_n) (fun u_607 => bd (fX4_numberWithPower N l_n x1 u_607) (fun u_609 => some (.inr u_609))))
set_option maxHeartbeats 4000000 in
set_option maxRecDepth 100000 in
theorem nX4_polynomial {l : Launch} {G : wG} (c0 l0 l1 l2 l3 m0 m1 m2 m3 m4 m5 r0 r1 r2 r3 g0 : Nat) (g_e : Int64) (l_a : Nat → Int32) (l_b : Nat → Int32) (l_c : Nat → Int32) (l_n : Int32) (m_x : Nat → Int32) (m_y : Nat → Int32) (m_d : Nat → Int32) (m_t : Nat → Int32) (m_v : Nat → Int32) (m_n : Int32) (r_s : Nat → Int32) (r_n : Nat → Int32) (r_w : Nat → Int32) (r_k : Int32) (x1 : Int32) (N : Nat) (v : Int32) (h : fX4_polynomial N l_n m_t m_n x1 = some (.inr v)) : wCi l G yX4_polynomial wsX4_polynomial ({ frames := 7, cells := 0, slots := 0, locals := 120 } : Room) [.ref c0, .int x1] (w_C G c0 l0 l1 l2 l3 m0 m1 m2 m3 m4 m5 r0 r1 r2 r3 g0 g_e l_a l_b l_c l_n m_x m_y m_d m_t m_v m_n r_s r_n r_w r_k) (w_C G c0 l0 l1 l2 l3 m0 m1 m2 m3 m4 m5 r0 r1 r2 r3 g0 g_e l_a l_b l_c l_n m_x m_y m_d m_t m_v m_n r_s r_n r_w r_k) 0 0 v := by
  refine wCi.mk (cc := cX4_polynomial) (maxL := 2) (ty := .int) (by decide) rfl (Nat.le_of_ble_eq_true rfl) ?_
  intro p e s m below meth c A ls hx hb hml hr hlocks hts hown hK hA hP hD hl
  have hx : p.tables.exec = Jvm.exec := hx
  have hown : s.vm.findClass RX4 = some m.cls := hown
  have hinX4 : ∀ w ∈ wsX40, w ∈ wsX4_polynomial := by decide +kernel
  have lk19 := hts (.fieldLink RX4 19 "Chamberwright" "meets" "LChamberwright$Meets;") (by decide +kernel)
  have hS : va_S A s.heap s.heap [] := va_S.rf
  have hP : va_P G.1 vwCl (w_C G c0 l0 l1 l2 l3 m0 m1 m2 m3 m4 m5 r0 r1 r2 r3 g0 g_e l_a l_b l_c l_n m_x m_y m_d m_t m_v m_n r_s r_n r_w r_k) s.heap := hP
  have hD : va_D A (w_C G c0 l0 l1 l2 l3 m0 m1 m2 m3 m4 m5 r0 r1 r2 r3 g0 g_e l_a l_b l_c l_n m_x m_y m_d m_t m_v m_n r_s r_n r_w r_k) := hD
  have hl : lv_has ls 2 [(0, .ref c0), (1, .int x1)] := hl
  obtain ⟨args, hargs⟩ : ∃ z : Array Value, z = ([.ref c0, .int x1] : List Value).toArray := ⟨_, rfl⟩
  rw [← hargs]
  rw [← hargs] at hts
  rw [fX4_polynomial.eq_1] at h
  refine lv_iload_n hx hb dX4_polynomial_0 rfl (lv_at hl 1 rfl) ?_
  obtain ⟨u_605, hc_606, h⟩ := bdx_n h
  refine wafter_v (wr := (w_C G c0 l0 l1 l2 l3 m0 m1 m2 m3 m4 m5 r0 r1 r2 r3 g0 g_e l_a l_b l_c l_n m_x m_y m_d m_t m_v m_n r_s r_n r_w r_k)) (w2 := (w_C G c0 l0 l1 l2 l3 m0 m1 m2 m3 m4 m5 r0 r1 r2 r3 g0 g_e l_a l_b l_c l_n m_x m_y m_d m_t m_v m_n r_s r_n r_w r_k)) (va_runS (As := [.int x1]) (rest := []) ⟨hx, hb, hml, hown, hts⟩ (nX4_checkPower (l := l) (G := G)   x1 N u_605 hc_606 _) (va_cwS 1 hts gX4_polynomial_X4_checkPower rfl rfl rfl (by decide +kernel) ⟨Nat.le_of_ble_eq_true rfl, Nat.le_of_ble_eq_true rfl⟩) (wPreS hP hD hK [] rfl rfl) rfl rfl hl.1 rfl (lv_room (Nat.le_of_ble_eq_true rfl)) dX4_polynomial_1 ⟨Nat.zero_le _, Nat.zero_le _⟩) hP hD hS hA [] [0, 1, 2, 3, 4, 5, 6, 7, 8, 9, 10, 11, 12, 13, 14, 15] [0, 1, 2, 3, 4, 5, 6, 7, 8, 9, 10, 11, 12, 13, 14, 15] rfl rfl rfl (by decide) rfl rfl (fun H locs hP hD hS => ?_)
  refine lv_aload_n hx hb dX4_polynomial_4 rfl (lv_at hl 0 rfl) ?_
  refine lv_iload_n hx hb dX4_polynomial_5 rfl (lv_at hl 1 rfl) ?_
  refine lv_aload_n hx hb dX4_polynomial_6 rfl (lv_at hl 0 rfl) ?_
  refine va_get (D := G.1) (ci := 4) (v := .ref m0) (C := RX4) (T := TX4) (N := 4) hx hb hts hinX4 hown hK.1 hP 0 rfl rfl 1 (by decide) lk19 (fun _ h9 => h9) rfl dX4_polynomial_7 ?_
  obtain ⟨u_607, hc_608, h⟩ := bd_inv h
  refine wafter_i (wr := [(c0, .inr (4, [.ref l0, .ref m0, .ref r0, .ref g0])), (l0, .inr (1, [.ref l1, .ref l2, .ref l3, .int l_n])), (l1, .inl (G.2.1, 9, .inl l_a)), (l2, .inl (G.2.1, 9, .inl l_b)), (l3, .inl (G.2.1, 9, .inl l_c)), (r0, .inr (3, [.ref r1, .ref r2, .ref r3, .int r_k])), (r1, .inl (G.2.1, 46, .inl r_s)), (r2, .inl (G.2.1, 512, .inl r_n)), (r3, .inl (G.2.1, 512, .inl r_w)), (g0, .inr (0, [.long g_e]))]) (w2 := (w_C G c0 l0 l1 l2 l3 m0 m1 m2 m3 m4 m5 r0 r1 r2 r3 g0 g_e l_a l_b l_c l_n m_x m_y m_d m_t m_v m_n r_s r_n r_w r_k)) (va_runV (As := []) (rest := [.int x1, .ref c0]) ⟨hx, hb, hml, hown, hts⟩ (kX2_surplus (l := l) (G := G) m0 m1 m2 m3 m4 m5 m_x m_y m_d m_t m_v m_n  N u_607 hc_608 _) (cwV 0 hts gX4_polynomial_X2_surplus rfl rfl rfl (by decide +kernel) ⟨Nat.le_of_ble_eq_true rfl, Nat.le_of_ble_eq_true rfl⟩) (wPreV hP hD hK [5, 6, 7, 8, 9, 10] rfl rfl (ci := 2) (qb := 5) rfl rfl rfl) rfl rfl hl.1 rfl (lv_room (Nat.le_of_ble_eq_true rfl)) dX4_polynomial_10 ⟨Nat.zero_le _, Nat.zero_le _⟩) hP hD hS hA [5, 6, 7, 8, 9, 10] [0, 1, 2, 3, 4, 11, 12, 13, 14, 15] [0, 1, 2, 3, 4, 10, 11, 12, 13, 14, 15, 5, 6, 7, 8, 9] rfl rfl rfl (by decide) rfl rfl (fun H locs hP hD hS => ?_)
  obtain ⟨u_609, hc_610, h⟩ := bd_inv h
  refine wafter_i (wr := []) (w2 := (w_C G c0 l0 l1 l2 l3 m0 m1 m2 m3 m4 m5 r0 r1 r2 r3 g0 g_e l_a l_b l_c l_n m_x m_y m_d m_t m_v m_n r_s r_n r_w r_k)) (va_runV (As := [.int x1, .int u_607]) (rest := []) ⟨hx, hb, hml, hown, hts⟩ (kX4_numberWithPower (l := l) (G := G) c0 l0 l1 l2 l3 m0 m1 m2 m3 m4 m5 r0 r1 r2 r3 g0 g_e l_a l_b l_c l_n m_x m_y m_d m_t m_v m_n r_s r_n r_w r_k x1 u_607 N u_609 hc_610 _) (cwV 2 hts gX4_polynomial_X4_numberWithPower rfl rfl rfl (by decide +kernel) ⟨Nat.le_of_ble_eq_true rfl, Nat.le_of_ble_eq_true rfl⟩) (wPreV hP hD hK [0, 1, 2, 3, 4, 5, 6, 7, 8, 9, 10, 11, 12, 13, 14, 15] rfl rfl (ci := 4) (qb := 0) rfl rfl rfl) rfl rfl hl.1 rfl (lv_room (Nat.le_of_ble_eq_true rfl)) dX4_polynomial_13 ⟨Nat.zero_le _, Nat.zero_le _⟩) hP hD hS hA [0, 1, 2, 3, 4, 5, 6, 7, 8, 9, 10, 11, 12, 13, 14, 15] [] [0, 1, 2, 3, 4, 5, 6, 7, 8, 9, 10, 11, 12, 13, 14, 15] rfl rfl rfl (by decide) rfl rfl (fun H locs hP hD hS => ?_)
  obtain rfl := Sum.inr.inj (Option.some.inj h)
  exact wri hx hb hr hlocks hP hD hS (Nat.le_of_ble_eq_true rfl) (Nat.le_of_ble_eq_true rfl) rfl dX4_polynomial_16
def fX4_polynomialAnew_b8 (N : Nat) (l_a : Nat → Int32) (l_b : Nat → Int32) (l_c : Nat → Int32) (l_n : Int32) (k_36 : Int32 → Option (String ⊕ (Int32))) : Nat → Int32 → Int32 → Option (String ⊕ (Int32))
  | 0, _, _ => none
  | n + 1, x2, x3 => bd (fX1_count N l_n) (fun u_611 => if u_611 ≤ x3 then k_36 x2 else bd (fX1_pointsOnLowerOnes N l_a l_b l_c x3) (fun u_614 => fX4_polynomialAnew_b8 N l_a l_b l_c l_n k_36 n (x2 + u_614) (x3 + 1)))
def fX4_polynomialAnew (N : Nat) (l_a : Nat → Int32) (l_b : Nat → Int32) (l_c : Nat → Int32) (l_n : Int32) (x1 : Int32) : Option (String ⊕ (Int32)) := bdx (fX4_checkPower N x1) (fun u_616 => fX4_polynomialAnew_b8 N l_a l_b l_c l_n (fun (x2_618 : Int32) => bd (fX4_numberWithPower N l_n x1 x2_618) (fun u_619 => some (.inr u_619))) N 0 0)
set_option maxHeartbeats 4000000 in
set_option maxRecDepth 100000 in
theorem nX4_polynomialAnew {l : Launch} {G : wG} (c0 l0 l1 l2 l3 m0 m1 m2 m3 m4 m5 r0 r1 r2 r3 g0 : Nat) (g_e : Int64) (l_a : Nat → Int32) (l_b : Nat → Int32) (l_c : Nat → Int32) (l_n : Int32) (m_x : Nat → Int32) (m_y : Nat → Int32) (m_d : Nat → Int32) (m_t : Nat → Int32) (m_v : Nat → Int32) (m_n : Int32) (r_s : Nat → Int32) (r_n : Nat → Int32) (r_w : Nat → Int32) (r_k : Int32) (x1 : Int32) (N : Nat) (v : Int32) (h : fX4_polynomialAnew N l_a l_b l_c l_n x1 = some (.inr v)) : wCi l G yX4_polynomialAnew wsX4_polynomialAnew ({ frames := 7, cells := 0, slots := 0, locals := 120 } : Room) [.ref c0, .int x1] (w_C G c0 l0 l1 l2 l3 m0 m1 m2 m3 m4 m5 r0 r1 r2 r3 g0 g_e l_a l_b l_c l_n m_x m_y m_d m_t m_v m_n r_s r_n r_w r_k) (w_C G c0 l0 l1 l2 l3 m0 m1 m2 m3 m4 m5 r0 r1 r2 r3 g0 g_e l_a l_b l_c l_n m_x m_y m_d m_t m_v m_n r_s r_n r_w r_k) 0 0 v := by
  refine wCi.mk (cc := cX4_polynomialAnew) (maxL := 4) (ty := .int) (by decide) rfl (Nat.le_of_ble_eq_true rfl) ?_
  intro p e s m below meth c A ls hx hb hml hr hlocks hts hown hK hA hP hD hl
  have hx : p.tables.exec = Jvm.exec := hx
  have hown : s.vm.findClass RX4 = some m.cls := hown
  have hinX4 : ∀ w ∈ wsX40, w ∈ wsX4_polynomialAnew := by decide +kernel
  have lk10 := hts (.fieldLink RX4 10 "Chamberwright" "lines" "LChamberwright$Lines;") (by decide +kernel)
  have hS : va_S A s.heap s.heap [] := va_S.rf
  have hP : va_P G.1 vwCl (w_C G c0 l0 l1 l2 l3 m0 m1 m2 m3 m4 m5 r0 r1 r2 r3 g0 g_e l_a l_b l_c l_n m_x m_y m_d m_t m_v m_n r_s r_n r_w r_k) s.heap := hP
  have hD : va_D A (w_C G c0 l0 l1 l2 l3 m0 m1 m2 m3 m4 m5 r0 r1 r2 r3 g0 g_e l_a l_b l_c l_n m_x m_y m_d m_t m_v m_n r_s r_n r_w r_k) := hD
  have hl : lv_has ls 4 [(0, .ref c0), (1, .int x1)] := hl
  obtain ⟨args, hargs⟩ : ∃ z : Array Value, z = ([.ref c0, .int x1] : List Value).toArray := ⟨_, rfl⟩
  rw [← hargs]
  rw [← hargs] at hts
  have w_8 : ∀ (k_36 : Int32 → Option (String ⊕ (Int32))) (x1 : Int32)  (_z : Unit), (∀ (y2 : Int32) (H : Heap) (locs : List Loc) (ls : Array Slot), va_P G.1 vwCl (w_C G c0 l0 l1 l2 l3 m0 m1 m2 m3 m4 m5 r0 r1 r2 r3 g0 g_e l_a l_b l_c l_n m_x m_y m_d m_t m_v m_n r_s r_n r_w r_k) H → va_D A (w_C G c0 l0 l1 l2 l3 m0 m1 m2 m3 m4 m5 r0 r1 r2 r3 g0 g_e l_a l_b l_c l_n m_x m_y m_d m_t m_v m_n r_s r_n r_w r_k) → va_S A s.heap H locs → lv_has ls 4 [(0, .ref c0), (1, .int x1), (2, .int y2)] → k_36 y2 = some (.inr v) → W p l e ({ frames := 7, cells := 0, slots := 0, locals := 120 } : Room) s m args below meth c H locs 0 0 (wQi G A below args s (w_C G c0 l0 l1 l2 l3 m0 m1 m2 m3 m4 m5 r0 r1 r2 r3 g0 g_e l_a l_b l_c l_n m_x m_y m_d m_t m_v m_n r_s r_n r_w r_k) 0 0 v) (F0 m 36 ls [])) → ∀ (n : Nat) (x2 : Int32) (x3 : Int32)  (H : Heap) (locs : List Loc) (ls : Array Slot), va_P G.1 vwCl (w_C G c0 l0 l1 l2 l3 m0 m1 m2 m3 m4 m5 r0 r1 r2 r3 g0 g_e l_a l_b l_c l_n m_x m_y m_d m_t m_v m_n r_s r_n r_w r_k) H → va_D A (w_C G c0 l0 l1 l2 l3 m0 m1 m2 m3 m4 m5 r0 r1 r2 r3 g0 g_e l_a l_b l_c l_n m_x m_y m_d m_t m_v m_n r_s r_n r_w r_k) → va_S A s.heap H locs → lv_has ls 4 [(0, .ref c0), (1, .int x1), (2, .int x2), (3, .int x3)] → fX4_polynomialAnew_b8 N l_a l_b l_c l_n k_36 n x2 x3 = some (.inr v) → W p l e ({ frames := 7, cells := 0, slots := 0, locals := 120 } : Room) s m args below meth c H locs 0 0 (wQi G A below args s (w_C G c0 l0 l1 l2 l3 m0 m1 m2 m3 m4 m5 r0 r1 r2 r3 g0 g_e l_a l_b l_c l_n m_x m_y m_d m_t m_v m_n r_s r_n r_w r_k) 0 0 v) (F0 m 8 ls []) := by
    intro k_36 x1 _z hk_36 n
    induction n with
    | zero =>
      intro x2 x3 H locs ls hP hD hS hl h
      rw [fX4_polynomialAnew_b8.eq_1] at h
      cases h
    | succ n ih =>
      intro x2 x3 H locs ls hP hD hS hl h
      rw [fX4_polynomialAnew_b8.eq_2] at h
      refine lv_iload_n hx hb dX4_polynomialAnew_8 rfl (lv_at hl 3 rfl) ?_
      refine lv_aload_n hx hb dX4_polynomialAnew_9 rfl (lv_at hl 0 rfl) ?_
      refine va_get (D := G.1) (ci := 4) (v := .ref l0) (C := RX4) (T := TX4) (N := 4) hx hb hts hinX4 hown hK.1 hP 0 rfl rfl 0 (by decide) lk10 (fun _ h9 => h9) rfl dX4_polynomialAnew_10 ?_
      obtain ⟨u_611, hc_612, h⟩ := bd_inv h
      refine wafter_i (wr := [(c0, .inr (4, [.ref l0, .ref m0, .ref r0, .ref g0])), (m0, .inr (2, [.ref m1, .ref m2, .ref m3, .ref m4, .ref m5, .int m_n])), (m1, .inl (G.2.1, 36, .inl m_x)), (m2, .inl (G.2.1, 36, .inl m_y)), (m3, .inl (G.2.1, 36, .inl m_d)), (m4, .inl (G.2.1, 36, .inl m_t)), (m5, .inl (G.2.1, 36, .inl m_v)), (r0, .inr (3, [.ref r1, .ref r2, .ref r3, .int r_k])), (r1, .inl (G.2.1, 46, .inl r_s)), (r2, .inl (G.2.1, 512, .inl r_n)), (r3, .inl (G.2.1, 512, .inl r_w)), (g0, .inr (0, [.long g_e]))]) (w2 := (w_C G c0 l0 l1 l2 l3 m0 m1 m2 m3 m4 m5 r0 r1 r2 r3 g0 g_e l_a l_b l_c l_n m_x m_y m_d m_t m_v m_n r_s r_n r_w r_k)) (va_runV (As := []) (rest := [.int x3]) ⟨hx, hb, hml, hown, hts⟩ (kX1_count (l := l) (G := G) l0 l1 l2 l3 l_a l_b l_c l_n  N u_611 hc_612 _) (cwV 0 hts gX4_polynomialAnew_X1_count rfl rfl rfl (by decide +kernel) ⟨Nat.le_of_ble_eq_true rfl, Nat.le_of_ble_eq_true rfl⟩) (wPreV hP hD hK [1, 2, 3, 4] rfl rfl (ci := 1) (qb := 1) rfl rfl rfl) rfl rfl hl.1 rfl (lv_room (Nat.le_of_ble_eq_true rfl)) dX4_polynomialAnew_13 ⟨Nat.zero_le _, Nat.zero_le _⟩) hP hD hS hA [1, 2, 3, 4] [0, 5, 6, 7, 8, 9, 10, 11, 12, 13, 14, 15] [0, 12, 13, 14, 15, 1, 2, 3, 4, 5, 6, 7, 8, 9, 10, 11] rfl rfl rfl (by decide) rfl rfl (fun H locs hP hD hS => ?_)
      refine lv_icmp_ge (tgt := 36) hx hb dX4_polynomialAnew_16 (by decide) (fun c_613 => ?_) (fun c_613 => ?_)
      · have h := ip c_613 h
        exact hk_36 _ _ _ _ hP hD hS (lv_sub hl [0, 1, 2] rfl) h
      · have h := iq c_613 h
        refine lv_iload_n hx hb dX4_polynomialAnew_19 rfl (lv_at hl 2 rfl) ?_
        refine lv_aload_n hx hb dX4_polynomialAnew_20 rfl (lv_at hl 0 rfl) ?_
        refine va_get (D := G.1) (ci := 4) (v := .ref l0) (C := RX4) (T := TX4) (N := 4) hx hb hts hinX4 hown hK.1 hP 0 rfl rfl 0 (by decide) lk10 (fun _ h9 => h9) rfl dX4_polynomialAnew_21 ?_
        refine lv_iload_n hx hb dX4_polynomialAnew_24 rfl (lv_at hl 3 rfl) ?_
        obtain ⟨u_614, hc_615, h⟩ := bd_inv h
        refine wafter_i (wr := [(c0, .inr (4, [.ref l0, .ref m0, .ref r0, .ref g0])), (m0, .inr (2, [.ref m1, .ref m2, .ref m3, .ref m4, .ref m5, .int m_n])), (m1, .inl (G.2.1, 36, .inl m_x)), (m2, .inl (G.2.1, 36, .inl m_y)), (m3, .inl (G.2.1, 36, .inl m_d)), (m4, .inl (G.2.1, 36, .inl m_t)), (m5, .inl (G.2.1, 36, .inl m_v)), (r0, .inr (3, [.ref r1, .ref r2, .ref r3, .int r_k])), (r1, .inl (G.2.1, 46, .inl r_s)), (r2, .inl (G.2.1, 512, .inl r_n)), (r3, .inl (G.2.1, 512, .inl r_w)), (g0, .inr (0, [.long g_e]))]) (w2 := (w_C G c0 l0 l1 l2 l3 m0 m1 m2 m3 m4 m5 r0 r1 r2 r3 g0 g_e l_a l_b l_c l_n m_x m_y m_d m_t m_v m_n r_s r_n r_w r_k)) (va_runV (As := [.int x3]) (rest := [.int x2]) ⟨hx, hb, hml, hown, hts⟩ (kX1_pointsOnLowerOnes (l := l) (G := G) l0 l1 l2 l3 l_a l_b l_c l_n x3 N u_614 hc_615 _) (cwV 1 hts gX4_polynomialAnew_X1_pointsOnLowerOnes rfl rfl rfl (by decide +kernel) ⟨Nat.le_of_ble_eq_true rfl, Nat.le_of_ble_eq_true rfl⟩) (wPreV hP hD hK [1, 2, 3, 4] rfl rfl (ci := 1) (qb := 1) rfl rfl rfl) rfl rfl hl.1 rfl (lv_room (Nat.le_of_ble_eq_true rfl)) dX4_polynomialAnew_25 ⟨Nat.zero_le _, Nat.zero_le _⟩) hP hD hS hA [1, 2, 3, 4] [0, 5, 6, 7, 8, 9, 10, 11, 12, 13, 14, 15] [0, 12, 13, 14, 15, 1, 2, 3, 4, 5, 6, 7, 8, 9, 10, 11] rfl rfl rfl (by decide) rfl rfl (fun H locs hP hD hS => ?_)
        refine lv_iadd hx hb dX4_polynomialAnew_28 ?_
        refine lv_istore_n (lv' := [(2, .int (x2 + u_614)), (0, .ref c0), (1, .int x1), (3, .int x3)]) hx hb dX4_polynomialAnew_29 rfl hl (by decide) rfl (fun ls hl => ?_)
        refine lv_iinc (v := (x3 + 1)) (lv' := [(3, .int (x3 + 1)), (2, .int (x2 + u_614)), (0, .ref c0), (1, .int x1)]) hx hb dX4_polynomialAnew_30 hl (k := 3) rfl rfl (by decide) rfl (fun ls hl => ?_)
        refine lv_goto (tgt := 8) hx hb dX4_polynomialAnew_33 (by decide) ?_
        exact ih _ _ _ _ _ hP hD hS (lv_sub hl [2, 3, 1, 0] rfl) h
  rw [fX4_polynomialAnew.eq_1] at h
  refine lv_iload_n hx hb dX4_polynomialAnew_0 rfl (lv_at hl 1 rfl) ?_
  obtain ⟨u_616, hc_617, h⟩ := bdx_n h
  refine wafter_v (wr := (w_C G c0 l0 l1 l2 l3 m0 m1 m2 m3 m4 m5 r0 r1 r2 r3 g0 g_e l_a l_b l_c l_n m_x m_y m_d m_t m_v m_n r_s r_n r_w r_k)) (w2 := (w_C G c0 l0 l1 l2 l3 m0 m1 m2 m3 m4 m5 r0 r1 r2 r3 g0 g_e l_a l_b l_c l_n m_x m_y m_d m_t m_v m_n r_s r_n r_w r_k)) (va_runS (As := [.int x1]) (rest := []) ⟨hx, hb, hml, hown, hts⟩ (nX4_checkPower (l := l) (G := G)   x1 N u_616 hc_617 _) (va_cwS 1 hts gX4_polynomialAnew_X4_checkPower rfl rfl rfl (by decide +kernel) ⟨Nat.le_of_ble_eq_true rfl, Nat.le_of_ble_eq_true rfl⟩) (wPreS hP hD hK [] rfl rfl) rfl rfl hl.1 rfl (lv_room (Nat.le_of_ble_eq_true rfl)) dX4_polynomialAnew_1 ⟨Nat.zero_le _, Nat.zero_le _⟩) hP hD hS hA [] [0, 1, 2, 3, 4, 5, 6, 7, 8, 9, 10, 11, 12, 13, 14, 15] [0, 1, 2, 3, 4, 5, 6, 7, 8, 9, 10, 11, 12, 13, 14, 15] rfl rfl rfl (by decide) rfl rfl (fun H locs hP hD hS => ?_)
  refine lv_iconst (v := 0) hx hb dX4_polynomialAnew_4 (by decide) ?_
  refine lv_istore_n (lv' := [(2, .int 0), (0, .ref c0), (1, .int x1)]) hx hb dX4_polynomialAnew_5 rfl hl (by decide) rfl (fun ls hl => ?_)
  refine lv_iconst (v := 0) hx hb dX4_polynomialAnew_6 (by decide) ?_
  refine lv_istore_n (lv' := [(3, .int 0), (2, .int 0), (0, .ref c0), (1, .int x1)]) hx hb dX4_polynomialAnew_7 rfl hl (by decide) rfl (fun ls hl => ?_)
  refine w_8 _ _  () (fun x2_618 H locs ls hP hD hS hl h => ?_) N _ _  _ _ _ hP hD hS (lv_sub hl [2, 3, 1, 0] rfl) h
  refine lv_aload_n hx hb dX4_polynomialAnew_36 rfl (lv_at hl 0 rfl) ?_
  refine lv_iload_n hx hb dX4_polynomialAnew_37 rfl (lv_at hl 1 rfl) ?_
  refine lv_iload_n hx hb dX4_polynomialAnew_38 rfl (lv_at hl 2 rfl) ?_
  obtain ⟨u_619, hc_620, h⟩ := bd_inv h
  refine wafter_i (wr := []) (w2 := (w_C G c0 l0 l1 l2 l3 m0 m1 m2 m3 m4 m5 r0 r1 r2 r3 g0 g_e l_a l_b l_c l_n m_x m_y m_d m_t m_v m_n r_s r_n r_w r_k)) (va_runV (As := [.int x1, .int x2_618]) (rest := []) ⟨hx, hb, hml, hown, hts⟩ (kX4_numberWithPower (l := l) (G := G) c0 l0 l1 l2 l3 m0 m1 m2 m3 m4 m5 r0 r1 r2 r3 g0 g_e l_a l_b l_c l_n m_x m_y m_d m_t m_v m_n r_s r_n r_w r_k x1 x2_618 N u_619 hc_620 _) (cwV 2 hts gX4_polynomialAnew_X4_numberWithPower rfl rfl rfl (by decide +kernel) ⟨Nat.le_of_ble_eq_true rfl, Nat.le_of_ble_eq_true rfl⟩) (wPreV hP hD hK [0, 1, 2, 3, 4, 5, 6, 7, 8, 9, 10, 11, 12, 13, 14, 15] rfl rfl (ci := 4) (qb := 0) rfl rfl rfl) rfl rfl hl.1 rfl (lv_room (Nat.le_of_ble_eq_true rfl)) dX4_polynomialAnew_39 ⟨Nat.zero_le _, Nat.zero_le _⟩) hP hD hS hA [0, 1, 2, 3, 4, 5, 6, 7, 8, 9, 10, 11, 12, 13, 14, 15] [] [0, 1, 2, 3, 4, 5, 6, 7, 8, 9, 10, 11, 12, 13, 14, 15] rfl rfl rfl (by decide) rfl rfl (fun H locs hP hD hS => ?_)
  obtain rfl := Sum.inr.inj (Option.some.inj h)
  exact wri hx hb hr hlocks hP hD hS (Nat.le_of_ble_eq_true rfl) (Nat.le_of_ble_eq_true rfl) rfl dX4_polynomialAnew_42
def fX4_rooms (N : Nat) (r_k : Int32) : Option (Int32) := bd (fX3_count N r_k) (fun u_621 => some u_621)
set_option maxHeartbeats 4000000 in
set_option maxRecDepth 100000 in
theorem kX4_rooms {l : Launch} {G : wG} (c0 l0 l1 l2 l3 m0 m1 m2 m3 m4 m5 r0 r1 r2 r3 g0 : Nat) (g_e : Int64) (l_a : Nat → Int32) (l_b : Nat → Int32) (l_c : Nat → Int32) (l_n : Int32) (m_x : Nat → Int32) (m_y : Nat → Int32) (m_d : Nat → Int32) (m_t : Nat → Int32) (m_v : Nat → Int32) (m_n : Int32) (r_s : Nat → Int32) (r_n : Nat → Int32) (r_w : Nat → Int32) (r_k : Int32) (N : Nat) (v : Int32) (h : fX4_rooms N r_k = some v) : wCi l G yX4_rooms wsX4_rooms ({ frames := 1, cells := 0, slots := 0, locals := 20 } : Room) [.ref c0] (w_C G c0 l0 l1 l2 l3 m0 m1 m2 m3 m4 m5 r0 r1 r2 r3 g0 g_e l_a l_b l_c l_n m_x m_y m_d m_t m_v m_n r_s r_n r_w r_k) (w_C G c0 l0 l1 l2 l3 m0 m1 m2 m3 m4 m5 r0 r1 r2 r3 g0 g_e l_a l_b l_c l_n m_x m_y m_d m_t m_v m_n r_s r_n r_w r_k) 0 0 v := by
  refine wCi.mk (cc := cX4_rooms) (maxL := 1) (ty := .int) (by decide) rfl (Nat.le_of_ble_eq_true rfl) ?_
  intro p e s m below meth c A ls hx hb hml hr hlocks hts hown hK hA hP hD hl
  have hx : p.tables.exec = Jvm.exec := hx
  have hown : s.vm.findClass RX4 = some m.cls := hown
  have hinX4 : ∀ w ∈ wsX40, w ∈ wsX4_rooms := by decide +kernel
  have lk26 := hts (.fieldLink RX4 26 "Chamberwright" "rooms" "LChamberwright$Rooms;") (by decide +kernel)
  have hS : va_S A s.heap s.heap [] := va_S.rf
  have hP : va_P G.1 vwCl (w_C G c0 l0 l1 l2 l3 m0 m1 m2 m3 m4 m5 r0 r1 r2 r3 g0 g_e l_a l_b l_c l_n m_x m_y m_d m_t m_v m_n r_s r_n r_w r_k) s.heap := hP
  have hD : va_D A (w_C G c0 l0 l1 l2 l3 m0 m1 m2 m3 m4 m5 r0 r1 r2 r3 g0 g_e l_a l_b l_c l_n m_x m_y m_d m_t m_v m_n r_s r_n r_w r_k) := hD
  have hl : lv_has ls 1 [(0, .ref c0)] := hl
  obtain ⟨args, hargs⟩ : ∃ z : Array Value, z = ([.ref c0] : List Value).toArray := ⟨_, rfl⟩
  rw [← hargs]
  rw [← hargs] at hts
  rw [fX4_rooms.eq_1] at h
  refine lv_aload_n hx hb dX4_rooms_0 rfl (lv_at hl 0 rfl) ?_
  refine va_get (D := G.1) (ci := 4) (v := .ref r0) (C := RX4) (T := TX4) (N := 4) hx hb hts hinX4 hown hK.1 hP 0 rfl rfl 2 (by decide) lk26 (fun _ h9 => h9) rfl dX4_rooms_1 ?_
  obtain ⟨u_621, hc_622, h⟩ := bd_inv h
  refine wafter_i (wr := [(c0, .inr (4, [.ref l0, .ref m0, .ref r0, .ref g0])), (l0, .inr (1, [.ref l1, .ref l2, .ref l3, .int l_n])), (l1, .inl (G.2.1, 9, .inl l_a)), (l2, .inl (G.2.1, 9, .inl l_b)), (l3, .inl (G.2.1, 9, .inl l_c)), (m0, .inr (2, [.ref m1, .ref m2, .ref m3, .ref m4, .ref m5, .int m_n])), (m1, .inl (G.2.1, 36, .inl m_x)), (m2, .inl (G.2.1, 36, .inl m_y)), (m3, .inl (G.2.1, 36, .inl m_d)), (m4, .inl (G.2.1, 36, .inl m_t)), (m5, .inl (G.2.1, 36, .inl m_v)), (g0, .inr (0, [.long g_e]))]) (w2 := (w_C G c0 l0 l1 l2 l3 m0 m1 m2 m3 m4 m5 r0 r1 r2 r3 g0 g_e l_a l_b l_c l_n m_x m_y m_d m_t m_v m_n r_s r_n r_w r_k)) (va_runV (As := []) (rest := []) ⟨hx, hb, hml, hown, hts⟩ (kX3_count (l := l) (G := G) r0 r1 r2 r3 r_s r_n r_w r_k  N u_621 hc_622 _) (cwV 0 hts gX4_rooms_X3_count rfl rfl rfl (by decide +kernel) ⟨Nat.le_of_ble_eq_true rfl, Nat.le_of_ble_eq_true rfl⟩) (wPreV hP hD hK [11, 12, 13, 14] rfl rfl (ci := 3) (qb := 11) rfl rfl rfl) rfl rfl hl.1 rfl (lv_room (Nat.le_of_ble_eq_true rfl)) dX4_rooms_4 ⟨Nat.zero_le _, Nat.zero_le _⟩) hP hD hS hA [11, 12, 13, 14] [0, 1, 2, 3, 4, 5, 6, 7, 8, 9, 10, 15] [0, 1, 2, 3, 4, 5, 6, 7, 8, 9, 10, 12, 13, 14, 15, 11] rfl rfl rfl (by decide) rfl rfl (fun H locs hP hD hS => ?_)
  obtain rfl := Option.some.inj h
  exact wri hx hb hr hlocks hP hD hS (Nat.le_of_ble_eq_true rfl) (Nat.le_of_ble_eq_true rfl) rfl dX4_rooms_7
def fX4_bounded_b4 (N : Nat) (l_a : Nat → Int32) (l_b : Nat → Int32) (l_n : Int32) (r_s : Nat → Int32) (r_k : Int32) : Nat → Int32 → Int32 → Option (Int32)
  | 0, _, _ => none
  | n + 1, x1, x2 => bd (fX3_count N r_k) (fun u_623 => if u_623 ≤ x2 then some x1 else bd (fX3_isBounded N l_a l_b l_n r_s x2) (fun u_626 => if u_626 = 0 then fX4_bounded_b4 N l_a l_b l_n r_s r_k n x1 (x2 + 1) else fX4_bounded_b4 N l_a l_b l_n r_s r_k n (x1 + 1) (x2 + 1)))
def fX4_bounded (N : Nat) (l_a : Nat → Int32) (l_b : Nat → Int32) (l_n : Int32) (r_s : Nat → Int32) (r_k : Int32) : Option (Int32) := fX4_bounded_b4 N l_a l_b l_n r_s r_k N 0 0
set_option maxHeartbeats 4000000 in
set_option maxRecDepth 100000 in
theorem kX4_bounded {l : Launch} {G : wG} (c0 l0 l1 l2 l3 m0 m1 m2 m3 m4 m5 r0 r1 r2 r3 g0 : Nat) (g_e : Int64) (l_a : Nat → Int32) (l_b : Nat → Int32) (l_c : Nat → Int32) (l_n : Int32) (m_x : Nat → Int32) (m_y : Nat → Int32) (m_d : Nat → Int32) (m_t : Nat → Int32) (m_v : Nat → Int32) (m_n : Int32) (r_s : Nat → Int32) (r_n : Nat → Int32) (r_w : Nat → Int32) (r_k : Int32) (N : Nat) (v : Int32) (h : fX4_bounded N l_a l_b l_n r_s r_k = some v) : wCi l G yX4_bounded wsX4_bounded ({ frames := 4, cells := 0, slots := 0, locals := 91 } : Room) [.ref c0] (w_C G c0 l0 l1 l2 l3 m0 m1 m2 m3 m4 m5 r0 r1 r2 r3 g0 g_e l_a l_b l_c l_n m_x m_y m_d m_t m_v m_n r_s r_n r_w r_k) (w_C G c0 l0 l1 l2 l3 m0 m1 m2 m3 m4 m5 r0 r1 r2 r3 g0 g_e l_a l_b l_c l_n m_x m_y m_d m_t m_v m_n r_s r_n r_w r_k) 0 0 v := by
  refine wCi.mk (cc := cX4_bounded) (maxL := 3) (ty := .int) (by decide) rfl (Nat.le_of_ble_eq_true rfl) ?_
  intro p e s m below meth c A ls hx hb hml hr hlocks hts hown hK hA hP hD hl
  have hx : p.tables.exec = Jvm.exec := hx
  have hown : s.vm.findClass RX4 = some m.cls := hown
  have hinX4 : ∀ w ∈ wsX40, w ∈ wsX4_bounded := by decide +kernel
  have lk10 := hts (.fieldLink RX4 10 "Chamberwright" "lines" "LChamberwright$Lines;") (by decide +kernel)
  have lk26 := hts (.fieldLink RX4 26 "Chamberwright" "rooms" "LChamberwright$Rooms;") (by decide +kernel)
  have hS : va_S A s.heap s.heap [] := va_S.rf
  have hP : va_P G.1 vwCl (w_C G c0 l0 l1 l2 l3 m0 m1 m2 m3 m4 m5 r0 r1 r2 r3 g0 g_e l_a l_b l_c l_n m_x m_y m_d m_t m_v m_n r_s r_n r_w r_k) s.heap := hP
  have hD : va_D A (w_C G c0 l0 l1 l2 l3 m0 m1 m2 m3 m4 m5 r0 r1 r2 r3 g0 g_e l_a l_b l_c l_n m_x m_y m_d m_t m_v m_n r_s r_n r_w r_k) := hD
  have hl : lv_has ls 3 [(0, .ref c0)] := hl
  obtain ⟨args, hargs⟩ : ∃ z : Array Value, z = ([.ref c0] : List Value).toArray := ⟨_, rfl⟩
  rw [← hargs]
  rw [← hargs] at hts
  have w_4 : ∀   (_z : Unit), ∀ (n : Nat) (x1 : Int32) (x2 : Int32)  (H : Heap) (locs : List Loc) (ls : Array Slot), va_P G.1 vwCl (w_C G c0 l0 l1 l2 l3 m0 m1 m2 m3 m4 m5 r0 r1 r2 r3 g0 g_e l_a l_b l_c l_n m_x m_y m_d m_t m_v m_n r_s r_n r_w r_k) H → va_D A (w_C G c0 l0 l1 l2 l3 m0 m1 m2 m3 m4 m5 r0 r1 r2 r3 g0 g_e l_a l_b l_c l_n m_x m_y m_d m_t m_v m_n r_s r_n r_w r_k) → va_S A s.heap H locs → lv_has ls 3 [(0, .ref c0), (1, .int x1), (2, .int x2)] → fX4_bounded_b4 N l_a l_b l_n r_s r_k n x1 x2 = some v → W p l e ({ frames := 4, cells := 0, slots := 0, locals := 91 } : Room) s m args below meth c H locs 0 0 (wQi G A below args s (w_C G c0 l0 l1 l2 l3 m0 m1 m2 m3 m4 m5 r0 r1 r2 r3 g0 g_e l_a l_b l_c l_n m_x m_y m_d m_t m_v m_n r_s r_n r_w r_k) 0 0 v) (F0 m 4 ls []) := by
    intro _z n
    induction n with
    | zero =>
      intro x1 x2 H locs ls hP hD hS hl h
      rw [fX4_bounded_b4.eq_1] at h
      cases h
    | succ n ih =>
      intro x1 x2 H locs ls hP hD hS hl h
      rw [fX4_bounded_b4.eq_2] at h
      refine lv_iload_n hx hb dX4_bounded_4 rfl (lv_at hl 2 rfl) ?_
      refine lv_aload_n hx hb dX4_bounded_5 rfl (lv_at hl 0 rfl) ?_
      refine va_get (D := G.1) (ci := 4) (v := .ref r0) (C := RX4) (T := TX4) (N := 4) hx hb hts hinX4 hown hK.1 hP 0 rfl rfl 2 (by decide) lk26 (fun _ h9 => h9) rfl dX4_bounded_6 ?_
      obtain ⟨u_623, hc_624, h⟩ := bd_inv h
      refine wafter_i (wr := [(c0, .inr (4, [.ref l0, .ref m0, .ref r0, .ref g0])), (l0, .inr (1, [.ref l1, .ref l2, .ref l3, .int l_n])), (l1, .inl (G.2.1, 9, .inl l_a)), (l2, .inl (G.2.1, 9, .inl l_b)), (l3, .inl (G.2.1, 9, .inl l_c)), (m0, .inr (2, [.ref m1, .ref m2, .ref m3, .ref m4, .ref m5, .int m_n])), (m1, .inl (G.2.1, 36, .inl m_x)), (m2, .inl (G.2.1, 36, .inl m_y)), (m3, .inl (G.2.1, 36, .inl m_d)), (m4, .inl (G.2.1, 36, .inl m_t)), (m5, .inl (G.2.1, 36, .inl m_v)), (g0, .inr (0, [.long g_e]))]) (w2 := (w_C G c0 l0 l1 l2 l3 m0 m1 m2 m3 m4 m5 r0 r1 r2 r3 g0 g_e l_a l_b l_c l_n m_x m_y m_d m_t m_v m_n r_s r_n r_w r_k)) (va_runV (As := []) (rest := [.int x2]) ⟨hx, hb, hml, hown, hts⟩ (kX3_count (l := l) (G := G) r0 r1 r2 r3 r_s r_n r_w r_k  N u_623 hc_624 _) (cwV 0 hts gX4_bounded_X3_count rfl rfl rfl (by decide +kernel) ⟨Nat.le_of_ble_eq_true rfl, Nat.le_of_ble_eq_true rfl⟩) (wPreV hP hD hK [11, 12, 13, 14] rfl rfl (ci := 3) (qb := 11) rfl rfl rfl) rfl rfl hl.1 rfl (lv_room (Nat.le_of_ble_eq_true rfl)) dX4_bounded_9 ⟨Nat.zero_le _, Nat.zero_le _⟩) hP hD hS hA [11, 12, 13, 14] [0, 1, 2, 3, 4, 5, 6, 7, 8, 9, 10, 15] [0, 1, 2, 3, 4, 5, 6, 7, 8, 9, 10, 12, 13, 14, 15, 11] rfl rfl rfl (by decide) rfl rfl (fun H locs hP hD hS => ?_)
      refine lv_icmp_ge (tgt := 39) hx hb dX4_bounded_12 (by decide) (fun c_625 => ?_) (fun c_625 => ?_)
      · have h := ip c_625 h
        refine lv_iload_n hx hb dX4_bounded_39 rfl (lv_at hl 1 rfl) ?_
        obtain rfl := Option.some.inj h
        exact wri hx hb hr hlocks hP hD hS (Nat.le_of_ble_eq_true rfl) (Nat.le_of_ble_eq_true rfl) rfl dX4_bounded_40
      · have h := iq c_625 h
        refine lv_aload_n hx hb dX4_bounded_15 rfl (lv_at hl 0 rfl) ?_
        refine va_get (D := G.1) (ci := 4) (v := .ref r0) (C := RX4) (T := TX4) (N := 4) hx hb hts hinX4 hown hK.1 hP 0 rfl rfl 2 (by decide) lk26 (fun _ h9 => h9) rfl dX4_bounded_16 ?_
        refine lv_aload_n hx hb dX4_bounded_19 rfl (lv_at hl 0 rfl) ?_
        refine va_get (D := G.1) (ci := 4) (v := .ref l0) (C := RX4) (T := TX4) (N := 4) hx hb hts hinX4 hown hK.1 hP 0 rfl rfl 0 (by decide) lk10 (fun _ h9 => h9) rfl dX4_bounded_20 ?_
        refine lv_iload_n hx hb dX4_bounded_23 rfl (lv_at hl 2 rfl) ?_
        obtain ⟨u_626, hc_627, h⟩ := bd_inv h
        refine wafter_i (wr := [(c0, .inr (4, [.ref l0, .ref m0, .ref r0, .ref g0])), (m0, .inr (2, [.ref m1, .ref m2, .ref m3, .ref m4, .ref m5, .int m_n])), (m1, .inl (G.2.1, 36, .inl m_x)), (m2, .inl (G.2.1, 36, .inl m_y)), (m3, .inl (G.2.1, 36, .inl m_d)), (m4, .inl (G.2.1, 36, .inl m_t)), (m5, .inl (G.2.1, 36, .inl m_v)), (g0, .inr (0, [.long g_e]))]) (w2 := (w_C G c0 l0 l1 l2 l3 m0 m1 m2 m3 m4 m5 r0 r1 r2 r3 g0 g_e l_a l_b l_c l_n m_x m_y m_d m_t m_v m_n r_s r_n r_w r_k)) (va_runV (As := [.ref l0, .int x2]) (rest := []) ⟨hx, hb, hml, hown, hts⟩ (kX3_isBounded (l := l) (G := G) r0 r1 r2 r3 l0 l1 l2 l3 l_a l_b l_c l_n r_s r_n r_w r_k x2 N u_626 hc_627 _) (cwV 2 hts gX4_bounded_X3_isBounded rfl rfl rfl (by decide +kernel) ⟨Nat.le_of_ble_eq_true rfl, Nat.le_of_ble_eq_true rfl⟩) (wPreV hP hD hK [11, 12, 13, 14, 1, 2, 3, 4] rfl rfl (ci := 3) (qb := 11) rfl rfl rfl) rfl rfl hl.1 rfl (lv_room (Nat.le_of_ble_eq_true rfl)) dX4_bounded_24 ⟨Nat.zero_le _, Nat.zero_le _⟩) hP hD hS hA [11, 12, 13, 14, 1, 2, 3, 4] [0, 5, 6, 7, 8, 9, 10, 15] [0, 12, 13, 14, 15, 1, 2, 3, 4, 5, 6, 8, 9, 10, 11, 7] rfl rfl rfl (by decide) rfl rfl (fun H locs hP hD hS => ?_)
        refine lv_if_eq (tgt := 33) hx hb dX4_bounded_27 (by decide) (fun c_628 => ?_) (fun c_628 => ?_)
        · have h := ip c_628 h
          refine lv_iinc (v := (x2 + 1)) (lv' := [(2, .int (x2 + 1)), (0, .ref c0), (1, .int x1)]) hx hb dX4_bounded_33 hl (k := 2) rfl rfl (by decide) rfl (fun ls hl => ?_)
          refine lv_goto (tgt := 4) hx hb dX4_bounded_36 (by decide) ?_
          exact ih _ _ _ _ _ hP hD hS (lv_sub hl [1, 2, 0] rfl) h
        · have h := iq c_628 h
          refine lv_iinc (v := (x1 + 1)) (lv' := [(1, .int (x1 + 1)), (0, .ref c0), (2, .int x2)]) hx hb dX4_bounded_30 hl (k := 1) rfl rfl (by decide) rfl (fun ls hl => ?_)
          refine lv_iinc (v := (x2 + 1)) (lv' := [(2, .int (x2 + 1)), (1, .int (x1 + 1)), (0, .ref c0)]) hx hb dX4_bounded_33 hl (k := 2) rfl rfl (by decide) rfl (fun ls hl => ?_)
          refine lv_goto (tgt := 4) hx hb dX4_bounded_36 (by decide) ?_
          exact ih _ _ _ _ _ hP hD hS (lv_sub hl [2, 1, 0] rfl) h
  rw [fX4_bounded.eq_1] at h
  refine lv_iconst (v := 0) hx hb dX4_bounded_0 (by decide) ?_
  refine lv_istore_n (lv' := [(1, .int 0), (0, .ref c0)]) hx hb dX4_bounded_1 rfl hl (by decide) rfl (fun ls hl => ?_)
  refine lv_iconst (v := 0) hx hb dX4_bounded_2 (by decide) ?_
  refine lv_istore_n (lv' := [(2, .int 0), (1, .int 0), (0, .ref c0)]) hx hb dX4_bounded_3 rfl hl (by decide) rfl (fun ls hl => ?_)
  exact w_4    ()  N _ _  _ _ _ hP hD hS (lv_sub hl [2, 1, 0] rfl) h
def fX4_checkRoom (N : Nat) (r_k : Int32) (x1 : Int32) : Option (String ⊕ (Unit)) := if x1 < 0 then some (.inl xIOO) else bd (fX3_count N r_k) (fun u_630 => if x1 < u_630 then some (.inr ()) else some (.inl xIOO))
set_option maxHeartbeats 4000000 in
set_option maxRecDepth 100000 in
theorem nX4_checkRoom {l : Launch} {G : wG} (c0 l0 l1 l2 l3 m0 m1 m2 m3 m4 m5 r0 r1 r2 r3 g0 : Nat) (g_e : Int64) (l_a : Nat → Int32) (l_b : Nat → Int32) (l_c : Nat → Int32) (l_n : Int32) (m_x : Nat → Int32) (m_y : Nat → Int32) (m_d : Nat → Int32) (m_t : Nat → Int32) (m_v : Nat → Int32) (m_n : Int32) (r_s : Nat → Int32) (r_n : Nat → Int32) (r_w : Nat → Int32) (r_k : Int32) (x1 : Int32) (N : Nat) (v : Unit) (h : fX4_checkRoom N r_k x1 = some (.inr v)) : wCv l G yX4_checkRoom wsX4_checkRoom ({ frames := 6, cells := 0, slots := 0, locals := 100 } : Room) [.ref c0, .int x1] (w_C G c0 l0 l1 l2 l3 m0 m1 m2 m3 m4 m5 r0 r1 r2 r3 g0 g_e l_a l_b l_c l_n m_x m_y m_d m_t m_v m_n r_s r_n r_w r_k) (w_C G c0 l0 l1 l2 l3 m0 m1 m2 m3 m4 m5 r0 r1 r2 r3 g0 g_e l_a l_b l_c l_n m_x m_y m_d m_t m_v m_n r_s r_n r_w r_k) 0 0 := by
  refine wCv.mk (cc := cX4_checkRoom) (maxL := 2) (by decide) rfl (Nat.le_of_ble_eq_true rfl) ?_
  intro p e s m below meth c A ls hx hb hml hr hlocks hts hown hK hA hP hD hl
  have hx : p.tables.exec = Jvm.exec := hx
  have hown : s.vm.findClass RX4 = some m.cls := hown
  have hinX4 : ∀ w ∈ wsX40, w ∈ wsX4_checkRoom := by decide +kernel
  have lk26 := hts (.fieldLink RX4 26 "Chamberwright" "rooms" "LChamberwright$Rooms;") (by decide +kernel)
  have hS : va_S A s.heap s.heap [] := va_S.rf
  have hP : va_P G.1 vwCl (w_C G c0 l0 l1 l2 l3 m0 m1 m2 m3 m4 m5 r0 r1 r2 r3 g0 g_e l_a l_b l_c l_n m_x m_y m_d m_t m_v m_n r_s r_n r_w r_k) s.heap := hP
  have hD : va_D A (w_C G c0 l0 l1 l2 l3 m0 m1 m2 m3 m4 m5 r0 r1 r2 r3 g0 g_e l_a l_b l_c l_n m_x m_y m_d m_t m_v m_n r_s r_n r_w r_k) := hD
  have hl : lv_has ls 2 [(0, .ref c0), (1, .int x1)] := hl
  obtain ⟨args, hargs⟩ : ∃ z : Array Value, z = ([.ref c0, .int x1] : List Value).toArray := ⟨_, rfl⟩
  rw [← hargs]
  rw [← hargs] at hts
  rw [fX4_checkRoom.eq_1] at h
  refine lv_iload_n hx hb dX4_checkRoom_0 rfl (lv_at hl 1 rfl) ?_
  refine lv_if_lt (tgt := 15) hx hb dX4_checkRoom_1 (by decide) (fun c_629 => ?_) (fun c_629 => ?_)
  · have h := ip c_629 h
    cases h
  · have h := iq c_629 h
    refine lv_iload_n hx hb dX4_checkRoom_4 rfl (lv_at hl 1 rfl) ?_
    refine lv_aload_n hx hb dX4_checkRoom_5 rfl (lv_at hl 0 rfl) ?_
    refine va_get (D := G.1) (ci := 4) (v := .ref r0) (C := RX4) (T := TX4) (N := 4) hx hb hts hinX4 hown hK.1 hP 0 rfl rfl 2 (by decide) lk26 (fun _ h9 => h9) rfl dX4_checkRoom_6 ?_
    obtain ⟨u_630, hc_631, h⟩ := bd_inv h
    refine wafter_i (wr := [(c0, .inr (4, [.ref l0, .ref m0, .ref r0, .ref g0])), (l0, .inr (1, [.ref l1, .ref l2, .ref l3, .int l_n])), (l1, .inl (G.2.1, 9, .inl l_a)), (l2, .inl (G.2.1, 9, .inl l_b)), (l3, .inl (G.2.1, 9, .inl l_c)), (m0, .inr (2, [.ref m1, .ref m2, .ref m3, .ref m4, .ref m5, .int m_n])), (m1, .inl (G.2.1, 36, .inl m_x)), (m2, .inl (G.2.1, 36, .inl m_y)), (m3, .inl (G.2.1, 36, .inl m_d)), (m4, .inl (G.2.1, 36, .inl m_t)), (m5, .inl (G.2.1, 36, .inl m_v)), (g0, .inr (0, [.long g_e]))]) (w2 := (w_C G c0 l0 l1 l2 l3 m0 m1 m2 m3 m4 m5 r0 r1 r2 r3 g0 g_e l_a l_b l_c l_n m_x m_y m_d m_t m_v m_n r_s r_n r_w r_k)) (va_runV (As := []) (rest := [.int x1]) ⟨hx, hb, hml, hown, hts⟩ (kX3_count (l := l) (G := G) r0 r1 r2 r3 r_s r_n r_w r_k  N u_630 hc_631 _) (cwV 0 hts gX4_checkRoom_X3_count rfl rfl rfl (by decide +kernel) ⟨Nat.le_of_ble_eq_true rfl, Nat.le_of_ble_eq_true rfl⟩) (wPreV hP hD hK [11, 12, 13, 14] rfl rfl (ci := 3) (qb := 11) rfl rfl rfl) rfl rfl hl.1 rfl (lv_room (Nat.le_of_ble_eq_true rfl)) dX4_checkRoom_9 ⟨Nat.zero_le _, Nat.zero_le _⟩) hP hD hS hA [11, 12, 13, 14] [0, 1, 2, 3, 4, 5, 6, 7, 8, 9, 10, 15] [0, 1, 2, 3, 4, 5, 6, 7, 8, 9, 10, 12, 13, 14, 15, 11] rfl rfl rfl (by decide) rfl rfl (fun H locs hP hD hS => ?_)
    refine lv_icmp_lt (tgt := 25) hx hb dX4_checkRoom_12 (by decide) (fun c_632 => ?_) (fun c_632 => ?_)
    · have h := ip c_632 h
      obtain rfl := Sum.inr.inj (Option.some.inj h)
      exact wrv hx hb hr hlocks hP hD hS (Nat.le_of_ble_eq_true rfl) (Nat.le_of_ble_eq_true rfl) dX4_checkRoom_25
    · have h := iq c_632 h
      cases h
def fX4_room (N : Nat) (l_a : Nat → Int32) (l_b : Nat → Int32) (l_n : Int32) (m_t : Nat → Int32) (m_v : Nat → Int32) (m_n : Int32) (r_s : Nat → Int32) (r_n : Nat → Int32) (r_k : Int32) (x1 : Int32) (x2 : Int32) : Option (String ⊕ (Int32)) := bdx (fX4_checkRoom N r_k x1) (fun u_633 => if x2 = 0 then bd (fX3_set N r_s x1) (fun u_636 => some (.inr u_636)) else if x2 = 1 then bd (fX3_isBounded N l_a l_b l_n r_s x1) (fun u_639 => if u_639 = 0 then some (.inr 0) else some (.inr 1)) else if x2 = 2 then bd (fX3_walls N r_s r_n x1) (fun u_643 => some (.inr u_643)) else if x2 = 3 then bd (fX3_set N r_s x1) (fun u_646 => bd (fX2_cornersOf N m_t m_v m_n u_646) (fun u_648 => some (.inr u_648))) else some (.inl xIAE))
set_option maxHeartbeats 4000000 in
set_option maxRecDepth 100000 in
theorem nX4_room {l : Launch} {G : wG} (c0 l0 l1 l2 l3 m0 m1 m2 m3 m4 m5 r0 r1 r2 r3 g0 : Nat) (g_e : Int64) (l_a : Nat → Int32) (l_b : Nat → Int32) (l_c : Nat → Int32) (l_n : Int32) (m_x : Nat → Int32) (m_y : Nat → Int32) (m_d : Nat → Int32) (m_t : Nat → Int32) (m_v : Nat → Int32) (m_n : Int32) (r_s : Nat → Int32) (r_n : Nat → Int32) (r_w : Nat → Int32) (r_k : Int32) (x1 : Int32) (x2 : Int32) (N : Nat) (v : Int32) (h : fX4_room N l_a l_b l_n m_t m_v m_n r_s r_n r_k x1 x2 = some (.inr v)) : wCi l G yX4_room wsX4_room ({ frames := 7, cells := 0, slots := 0, locals := 121 } : Room) [.ref c0, .int x1, .int x2] (w_C G c0 l0 l1 l2 l3 m0 m1 m2 m3 m4 m5 r0 r1 r2 r3 g0 g_e l_a l_b l_c l_n m_x m_y m_d m_t m_v m_n r_s r_n r_w r_k) (w_C G c0 l0 l1 l2 l3 m0 m1 m2 m3 m4 m5 r0 r1 r2 r3 g0 g_e l_a l_b l_c l_n m_x m_y m_d m_t m_v m_n r_s r_n r_w r_k) 0 0 v := by
  refine wCi.mk (cc := cX4_room) (maxL := 3) (ty := .int) (by decide) rfl (Nat.le_of_ble_eq_true rfl) ?_
  intro p e s m below meth c A ls hx hb hml hr hlocks hts hown hK hA hP hD hl
  have hx : p.tables.exec = Jvm.exec := hx
  have hown : s.vm.findClass RX4 = some m.cls := hown
  have hinX4 : ∀ w ∈ wsX40, w ∈ wsX4_room := by decide +kernel
  have lk10 := hts (.fieldLink RX4 10 "Chamberwright" "lines" "LChamberwright$Lines;") (by decide +kernel)
  have lk19 := hts (.fieldLink RX4 19 "Chamberwright" "meets" "LChamberwright$Meets;") (by decide +kernel)
  have lk26 := hts (.fieldLink RX4 26 "Chamberwright" "rooms" "LChamberwright$Rooms;") (by decide +kernel)
  have hS : va_S A s.heap s.heap [] := va_S.rf
  have hP : va_P G.1 vwCl (w_C G c0 l0 l1 l2 l3 m0 m1 m2 m3 m4 m5 r0 r1 r2 r3 g0 g_e l_a l_b l_c l_n m_x m_y m_d m_t m_v m_n r_s r_n r_w r_k) s.heap := hP
  have hD : va_D A (w_C G c0 l0 l1 l2 l3 m0 m1 m2 m3 m4 m5 r0 r1 r2 r3 g0 g_e l_a l_b l_c l_n m_x m_y m_d m_t m_v m_n r_s r_n r_w r_k) := hD
  have hl : lv_has ls 3 [(0, .ref c0), (1, .int x1), (2, .int x2)] := hl
  obtain ⟨args, hargs⟩ : ∃ z : Array Value, z = ([.ref c0, .int x1, .int x2] : List Value).toArray := ⟨_, rfl⟩
  rw [← hargs]
  rw [← hargs] at hts
  rw [fX4_room.eq_1] at h
  refine lv_aload_n hx hb dX4_room_0 rfl (lv_at hl 0 rfl) ?_
  refine lv_iload_n hx hb dX4_room_1 rfl (lv_at hl 1 rfl) ?_
  obtain ⟨u_633, hc_634, h⟩ := bdx_n h
  refine wafter_v (wr := []) (w2 := (w_C G c0 l0 l1 l2 l3 m0 m1 m2 m3 m4 m5 r0 r1 r2 r3 g0 g_e l_a l_b l_c l_n m_x m_y m_d m_t m_v m_n r_s r_n r_w r_k)) (va_runV (As := [.int x1]) (rest := []) ⟨hx, hb, hml, hown, hts⟩ (nX4_checkRoom (l := l) (G := G) c0 l0 l1 l2 l3 m0 m1 m2 m3 m4 m5 r0 r1 r2 r3 g0 g_e l_a l_b l_c l_n m_x m_y m_d m_t m_v m_n r_s r_n r_w r_k x1 N u_633 hc_634 _) (cwV 1 hts gX4_room_X4_checkRoom rfl rfl rfl (by decide +kernel) ⟨Nat.le_of_ble_eq_true rfl, Nat.le_of_ble_eq_true rfl⟩) (wPreV hP hD hK [0, 1, 2, 3, 4, 5, 6, 7, 8, 9, 10, 11, 12, 13, 14, 15] rfl rfl (ci := 4) (qb := 0) rfl rfl rfl) rfl rfl hl.1 rfl (lv_room (Nat.le_of_ble_eq_true rfl)) dX4_room_2 ⟨Nat.zero_le _, Nat.zero_le _⟩) hP hD hS hA [0, 1, 2, 3, 4, 5, 6, 7, 8, 9, 10, 11, 12, 13, 14, 15] [] [0, 1, 2, 3, 4, 5, 6, 7, 8, 9, 10, 11, 12, 13, 14, 15] rfl rfl rfl (by decide) rfl rfl (fun H locs hP hD hS => ?_)
  refine lv_iload_n hx hb dX4_room_5 rfl (lv_at hl 2 rfl) ?_
  by_cases c_635 : x2 = 0
  · have h := ip c_635 h
    refine lv_tableIn (tgt := 36) hx hb dX4_room_6 (by rw [c_635]; decide) (by rw [c_635]; decide) (by rw [c_635]; rfl) (by decide) ?_
    refine lv_aload_n hx hb dX4_room_36 rfl (lv_at hl 0 rfl) ?_
    refine va_get (D := G.1) (ci := 4) (v := .ref r0) (C := RX4) (T := TX4) (N := 4) hx hb hts hinX4 hown hK.1 hP 0 rfl rfl 2 (by decide) lk26 (fun _ h9 => h9) rfl dX4_room_37 ?_
    refine lv_iload_n hx hb dX4_room_40 rfl (lv_at hl 1 rfl) ?_
    obtain ⟨u_636, hc_637, h⟩ := bd_inv h
    refine wafter_i (wr := [(c0, .inr (4, [.ref l0, .ref m0, .ref r0, .ref g0])), (l0, .inr (1, [.ref l1, .ref l2, .ref l3, .int l_n])), (l1, .inl (G.2.1, 9, .inl l_a)), (l2, .inl (G.2.1, 9, .inl l_b)), (l3, .inl (G.2.1, 9, .inl l_c)), (m0, .inr (2, [.ref m1, .ref m2, .ref m3, .ref m4, .ref m5, .int m_n])), (m1, .inl (G.2.1, 36, .inl m_x)), (m2, .inl (G.2.1, 36, .inl m_y)), (m3, .inl (G.2.1, 36, .inl m_d)), (m4, .inl (G.2.1, 36, .inl m_t)), (m5, .inl (G.2.1, 36, .inl m_v)), (g0, .inr (0, [.long g_e]))]) (w2 := (w_C G c0 l0 l1 l2 l3 m0 m1 m2 m3 m4 m5 r0 r1 r2 r3 g0 g_e l_a l_b l_c l_n m_x m_y m_d m_t m_v m_n r_s r_n r_w r_k)) (va_runV (As := [.int x1]) (rest := []) ⟨hx, hb, hml, hown, hts⟩ (kX3_set (l := l) (G := G) r0 r1 r2 r3 r_s r_n r_w r_k x1 N u_636 hc_637 _) (cwV 1 hts gX4_room_X3_set rfl rfl rfl (by decide +kernel) ⟨Nat.le_of_ble_eq_true rfl, Nat.le_of_ble_eq_true rfl⟩) (wPreV hP hD hK [11, 12, 13, 14] rfl rfl (ci := 3) (qb := 11) rfl rfl rfl) rfl rfl hl.1 rfl (lv_room (Nat.le_of_ble_eq_true rfl)) dX4_room_41 ⟨Nat.zero_le _, Nat.zero_le _⟩) hP hD hS hA [11, 12, 13, 14] [0, 1, 2, 3, 4, 5, 6, 7, 8, 9, 10, 15] [0, 1, 2, 3, 4, 5, 6, 7, 8, 9, 10, 12, 13, 14, 15, 11] rfl rfl rfl (by decide) rfl rfl (fun H locs hP hD hS => ?_)
    obtain rfl := Sum.inr.inj (Option.some.inj h)
    exact wri hx hb hr hlocks hP hD hS (Nat.le_of_ble_eq_true rfl) (Nat.le_of_ble_eq_true rfl) rfl dX4_room_44
  · have h := iq c_635 h
    by_cases c_638 : x2 = 1
    · have h := ip c_638 h
      refine lv_tableIn (tgt := 45) hx hb dX4_room_6 (by rw [c_638]; decide) (by rw [c_638]; decide) (by rw [c_638]; rfl) (by decide) ?_
      refine lv_aload_n hx hb dX4_room_45 rfl (lv_at hl 0 rfl) ?_
      refine va_get (D := G.1) (ci := 4) (v := .ref r0) (C := RX4) (T := TX4) (N := 4) hx hb hts hinX4 hown hK.1 hP 0 rfl rfl 2 (by decide) lk26 (fun _ h9 => h9) rfl dX4_room_46 ?_
      refine lv_aload_n hx hb dX4_room_49 rfl (lv_at hl 0 rfl) ?_
      refine va_get (D := G.1) (ci := 4) (v := .ref l0) (C := RX4) (T := TX4) (N := 4) hx hb hts hinX4 hown hK.1 hP 0 rfl rfl 0 (by decide) lk10 (fun _ h9 => h9) rfl dX4_room_50 ?_
      refine lv_iload_n hx hb dX4_room_53 rfl (lv_at hl 1 rfl) ?_
      obtain ⟨u_639, hc_640, h⟩ := bd_inv h
      refine wafter_i (wr := [(c0, .inr (4, [.ref l0, .ref m0, .ref r0, .ref g0])), (m0, .inr (2, [.ref m1, .ref m2, .ref m3, .ref m4, .ref m5, .int m_n])), (m1, .inl (G.2.1, 36, .inl m_x)), (m2, .inl (G.2.1, 36, .inl m_y)), (m3, .inl (G.2.1, 36, .inl m_d)), (m4, .inl (G.2.1, 36, .inl m_t)), (m5, .inl (G.2.1, 36, .inl m_v)), (g0, .inr (0, [.long g_e]))]) (w2 := (w_C G c0 l0 l1 l2 l3 m0 m1 m2 m3 m4 m5 r0 r1 r2 r3 g0 g_e l_a l_b l_c l_n m_x m_y m_d m_t m_v m_n r_s r_n r_w r_k)) (va_runV (As := [.ref l0, .int x1]) (rest := []) ⟨hx, hb, hml, hown, hts⟩ (kX3_isBounded (l := l) (G := G) r0 r1 r2 r3 l0 l1 l2 l3 l_a l_b l_c l_n r_s r_n r_w r_k x1 N u_639 hc_640 _) (cwV 2 hts gX4_room_X3_isBounded rfl rfl rfl (by decide +kernel) ⟨Nat.le_of_ble_eq_true rfl, Nat.le_of_ble_eq_true rfl⟩) (wPreV hP hD hK [11, 12, 13, 14, 1, 2, 3, 4] rfl rfl (ci := 3) (qb := 11) rfl rfl rfl) rfl rfl hl.1 rfl (lv_room (Nat.le_of_ble_eq_true rfl)) dX4_room_54 ⟨Nat.zero_le _, Nat.zero_le _⟩) hP hD hS hA [11, 12, 13, 14, 1, 2, 3, 4] [0, 5, 6, 7, 8, 9, 10, 15] [0, 12, 13, 14, 15, 1, 2, 3, 4, 5, 6, 8, 9, 10, 11, 7] rfl rfl rfl (by decide) rfl rfl (fun H locs hP hD hS => ?_)
      refine lv_if_eq (tgt := 64) hx hb dX4_room_57 (by decide) (fun c_641 => ?_) (fun c_641 => ?_)
      · have h := ip c_641 h
        refine lv_iconst (v := 0) hx hb dX4_room_64 (by decide) ?_
        obtain rfl := Sum.inr.inj (Option.some.inj h)
        exact wri hx hb hr hlocks hP hD hS (Nat.le_of_ble_eq_true rfl) (Nat.le_of_ble_eq_true rfl) rfl dX4_room_65
      · have h := iq c_641 h
        refine lv_iconst (v := 1) hx hb dX4_room_60 (by decide) ?_
        refine lv_goto (tgt := 65) hx hb dX4_room_61 (by decide) ?_
        obtain rfl := Sum.inr.inj (Option.some.inj h)
        exact wri hx hb hr hlocks hP hD hS (Nat.le_of_ble_eq_true rfl) (Nat.le_of_ble_eq_true rfl) rfl dX4_room_65
    · have h := iq c_638 h
      by_cases c_642 : x2 = 2
      · have h := ip c_642 h
        refine lv_tableIn (tgt := 66) hx hb dX4_room_6 (by rw [c_642]; decide) (by rw [c_642]; decide) (by rw [c_642]; rfl) (by decide) ?_
        refine lv_aload_n hx hb dX4_room_66 rfl (lv_at hl 0 rfl) ?_
        refine va_get (D := G.1) (ci := 4) (v := .ref r0) (C := RX4) (T := TX4) (N := 4) hx hb hts hinX4 hown hK.1 hP 0 rfl rfl 2 (by decide) lk26 (fun _ h9 => h9) rfl dX4_room_67 ?_
        refine lv_iload_n hx hb dX4_room_70 rfl (lv_at hl 1 rfl) ?_
        obtain ⟨u_643, hc_644, h⟩ := bd_inv h
        refine wafter_i (wr := [(c0, .inr (4, [.ref l0, .ref m0, .ref r0, .ref g0])), (l0, .inr (1, [.ref l1, .ref l2, .ref l3, .int l_n])), (l1, .inl (G.2.1, 9, .inl l_a)), (l2, .inl (G.2.1, 9, .inl l_b)), (l3, .inl (G.2.1, 9, .inl l_c)), (m0, .inr (2, [.ref m1, .ref m2, .ref m3, .ref m4, .ref m5, .int m_n])), (m1, .inl (G.2.1, 36, .inl m_x)), (m2, .inl (G.2.1, 36, .inl m_y)), (m3, .inl (G.2.1, 36, .inl m_d)), (m4, .inl (G.2.1, 36, .inl m_t)), (m5, .inl (G.2.1, 36, .inl m_v)), (g0, .inr (0, [.long g_e]))]) (w2 := (w_C G c0 l0 l1 l2 l3 m0 m1 m2 m3 m4 m5 r0 r1 r2 r3 g0 g_e l_a l_b l_c l_n m_x m_y m_d m_t m_v m_n r_s r_n r_w r_k)) (va_runV (As := [.int x1]) (rest := []) ⟨hx, hb, hml, hown, hts⟩ (kX3_walls (l := l) (G := G) r0 r1 r2 r3 r_s r_n r_w r_k x1 N u_643 hc_644 _) (cwV 1 hts gX4_room_X3_walls rfl rfl rfl (by decide +kernel) ⟨Nat.le_of_ble_eq_true rfl, Nat.le_of_ble_eq_true rfl⟩) (wPreV hP hD hK [11, 12, 13, 14] rfl rfl (ci := 3) (qb := 11) rfl rfl rfl) rfl rfl hl.1 rfl (lv_room (Nat.le_of_ble_eq_true rfl)) dX4_room_71 ⟨Nat.zero_le _, Nat.zero_le _⟩) hP hD hS hA [11, 12, 13, 14] [0, 1, 2, 3, 4, 5, 6, 7, 8, 9, 10, 15] [0, 1, 2, 3, 4, 5, 6, 7, 8, 9, 10, 12, 13, 14, 15, 11] rfl rfl rfl (by decide) rfl rfl (fun H locs hP hD hS => ?_)
        obtain rfl := Sum.inr.inj (Option.some.inj h)
        exact wri hx hb hr hlocks hP hD hS (Nat.le_of_ble_eq_true rfl) (Nat.le_of_ble_eq_true rfl) rfl dX4_room_74
      · have h := iq c_642 h
        by_cases c_645 : x2 = 3
        · have h := ip c_645 h
          refine lv_tableIn (tgt := 75) hx hb dX4_room_6 (by rw [c_645]; decide) (by rw [c_645]; decide) (by rw [c_645]; rfl) (by decide) ?_
          refine lv_aload_n hx hb dX4_room_75 rfl (lv_at hl 0 rfl) ?_
          refine va_get (D := G.1) (ci := 4) (v := .ref m0) (C := RX4) (T := TX4) (N := 4) hx hb hts hinX4 hown hK.1 hP 0 rfl rfl 1 (by decide) lk19 (fun _ h9 => h9) rfl dX4_room_76 ?_
          refine lv_aload_n hx hb dX4_room_79 rfl (lv_at hl 0 rfl) ?_
          refine va_get (D := G.1) (ci := 4) (v := .ref r0) (C := RX4) (T := TX4) (N := 4) hx hb hts hinX4 hown hK.1 hP 0 rfl rfl 2 (by decide) lk26 (fun _ h9 => h9) rfl dX4_room_80 ?_
          refine lv_iload_n hx hb dX4_room_83 rfl (lv_at hl 1 rfl) ?_
          obtain ⟨u_646, hc_647, h⟩ := bd_inv h
          refine wafter_i (wr := [(c0, .inr (4, [.ref l0, .ref m0, .ref r0, .ref g0])), (l0, .inr (1, [.ref l1, .ref l2, .ref l3, .int l_n])), (l1, .inl (G.2.1, 9, .inl l_a)), (l2, .inl (G.2.1, 9, .inl l_b)), (l3, .inl (G.2.1, 9, .inl l_c)), (m0, .inr (2, [.ref m1, .ref m2, .ref m3, .ref m4, .ref m5, .int m_n])), (m1, .inl (G.2.1, 36, .inl m_x)), (m2, .inl (G.2.1, 36, .inl m_y)), (m3, .inl (G.2.1, 36, .inl m_d)), (m4, .inl (G.2.1, 36, .inl m_t)), (m5, .inl (G.2.1, 36, .inl m_v)), (g0, .inr (0, [.long g_e]))]) (w2 := (w_C G c0 l0 l1 l2 l3 m0 m1 m2 m3 m4 m5 r0 r1 r2 r3 g0 g_e l_a l_b l_c l_n m_x m_y m_d m_t m_v m_n r_s r_n r_w r_k)) (va_runV (As := [.int x1]) (rest := [.ref m0]) ⟨hx, hb, hml, hown, hts⟩ (kX3_set (l := l) (G := G) r0 r1 r2 r3 r_s r_n r_w r_k x1 N u_646 hc_647 _) (cwV 1 hts gX4_room_X3_set rfl rfl rfl (by decide +kernel) ⟨Nat.le_of_ble_eq_true rfl, Nat.le_of_ble_eq_true rfl⟩) (wPreV hP hD hK [11, 12, 13, 14] rfl rfl (ci := 3) (qb := 11) rfl rfl rfl) rfl rfl hl.1 rfl (lv_room (Nat.le_of_ble_eq_true rfl)) dX4_room_84 ⟨Nat.zero_le _, Nat.zero_le _⟩) hP hD hS hA [11, 12, 13, 14] [0, 1, 2, 3, 4, 5, 6, 7, 8, 9, 10, 15] [0, 1, 2, 3, 4, 5, 6, 7, 8, 9, 10, 12, 13, 14, 15, 11] rfl rfl rfl (by decide) rfl rfl (fun H locs hP hD hS => ?_)
          obtain ⟨u_648, hc_649, h⟩ := bd_inv h
          refine wafter_i (wr := [(c0, .inr (4, [.ref l0, .ref m0, .ref r0, .ref g0])), (l0, .inr (1, [.ref l1, .ref l2, .ref l3, .int l_n])), (l1, .inl (G.2.1, 9, .inl l_a)), (l2, .inl (G.2.1, 9, .inl l_b)), (l3, .inl (G.2.1, 9, .inl l_c)), (r0, .inr (3, [.ref r1, .ref r2, .ref r3, .int r_k])), (r1, .inl (G.2.1, 46, .inl r_s)), (r2, .inl (G.2.1, 512, .inl r_n)), (r3, .inl (G.2.1, 512, .inl r_w)), (g0, .inr (0, [.long g_e]))]) (w2 := (w_C G c0 l0 l1 l2 l3 m0 m1 m2 m3 m4 m5 r0 r1 r2 r3 g0 g_e l_a l_b l_c l_n m_x m_y m_d m_t m_v m_n r_s r_n r_w r_k)) (va_runV (As := [.int u_646]) (rest := []) ⟨hx, hb, hml, hown, hts⟩ (kX2_cornersOf (l := l) (G := G) m0 m1 m2 m3 m4 m5 m_x m_y m_d m_t m_v m_n u_646 N u_648 hc_649 _) (cwV 1 hts gX4_room_X2_cornersOf rfl rfl rfl (by decide +kernel) ⟨Nat.le_of_ble_eq_true rfl, Nat.le_of_ble_eq_true rfl⟩) (wPreV hP hD hK [5, 6, 7, 8, 9, 10] rfl rfl (ci := 2) (qb := 5) rfl rfl rfl) rfl rfl hl.1 rfl (lv_room (Nat.le_of_ble_eq_true rfl)) dX4_room_87 ⟨Nat.zero_le _, Nat.zero_le _⟩) hP hD hS hA [5, 6, 7, 8, 9, 10] [0, 1, 2, 3, 4, 11, 12, 13, 14, 15] [0, 1, 2, 3, 4, 10, 11, 12, 13, 14, 15, 5, 6, 7, 8, 9] rfl rfl rfl (by decide) rfl rfl (fun H locs hP hD hS => ?_)
          obtain rfl := Sum.inr.inj (Option.some.inj h)
          exact wri hx hb hr hlocks hP hD hS (Nat.le_of_ble_eq_true rfl) (Nat.le_of_ble_eq_true rfl) rfl dX4_room_90
        · have h := iq c_645 h
          refine lv_tableOut (tgt := 91) hx hb dX4_room_6 (w_sw3 c_635 c_638 c_642 c_645) (by decide) ?_
          cases h
def fX4_roomOf (N : Nat) (r_n : Nat → Int32) (x1 : Int32) : Option (String ⊕ (Int32)) := if x1 < 0 then some (.inl xIAE) else if x1 < 512 then bd (fX3_numberOf N r_n x1) (fun u_652 => some (.inr u_652)) else some (.inl xIAE)
set_option maxHeartbeats 4000000 in
set_option maxRecDepth 100000 in
theorem nX4_roomOf {l : Launch} {G : wG} (c0 l0 l1 l2 l3 m0 m1 m2 m3 m4 m5 r0 r1 r2 r3 g0 : Nat) (g_e : Int64) (l_a : Nat → Int32) (l_b : Nat → Int32) (l_c : Nat → Int32) (l_n : Int32) (m_x : Nat → Int32) (m_y : Nat → Int32) (m_d : Nat → Int32) (m_t : Nat → Int32) (m_v : Nat → Int32) (m_n : Int32) (r_s : Nat → Int32) (r_n : Nat → Int32) (r_w : Nat → Int32) (r_k : Int32) (x1 : Int32) (N : Nat) (v : Int32) (h : fX4_roomOf N r_n x1 = some (.inr v)) : wCi l G yX4_roomOf wsX4_roomOf ({ frames := 6, cells := 0, slots := 0, locals := 100 } : Room) [.ref c0, .int x1] (w_C G c0 l0 l1 l2 l3 m0 m1 m2 m3 m4 m5 r0 r1 r2 r3 g0 g_e l_a l_b l_c l_n m_x m_y m_d m_t m_v m_n r_s r_n r_w r_k) (w_C G c0 l0 l1 l2 l3 m0 m1 m2 m3 m4 m5 r0 r1 r2 r3 g0 g_e l_a l_b l_c l_n m_x m_y m_d m_t m_v m_n r_s r_n r_w r_k) 0 0 v := by
  refine wCi.mk (cc := cX4_roomOf) (maxL := 2) (ty := .int) (by decide) rfl (Nat.le_of_ble_eq_true rfl) ?_
  intro p e s m below meth c A ls hx hb hml hr hlocks hts hown hK hA hP hD hl
  have hx : p.tables.exec = Jvm.exec := hx
  have hown : s.vm.findClass RX4 = some m.cls := hown
  have hinX4 : ∀ w ∈ wsX40, w ∈ wsX4_roomOf := by decide +kernel
  have lk26 := hts (.fieldLink RX4 26 "Chamberwright" "rooms" "LChamberwright$Rooms;") (by decide +kernel)
  have hS : va_S A s.heap s.heap [] := va_S.rf
  have hP : va_P G.1 vwCl (w_C G c0 l0 l1 l2 l3 m0 m1 m2 m3 m4 m5 r0 r1 r2 r3 g0 g_e l_a l_b l_c l_n m_x m_y m_d m_t m_v m_n r_s r_n r_w r_k) s.heap := hP
  have hD : va_D A (w_C G c0 l0 l1 l2 l3 m0 m1 m2 m3 m4 m5 r0 r1 r2 r3 g0 g_e l_a l_b l_c l_n m_x m_y m_d m_t m_v m_n r_s r_n r_w r_k) := hD
  have hl : lv_has ls 2 [(0, .ref c0), (1, .int x1)] := hl
  obtain ⟨args, hargs⟩ : ∃ z : Array Value, z = ([.ref c0, .int x1] : List Value).toArray := ⟨_, rfl⟩
  rw [← hargs]
  rw [← hargs] at hts
  rw [fX4_roomOf.eq_1] at h
  refine lv_iload_n hx hb dX4_roomOf_0 rfl (lv_at hl 1 rfl) ?_
  refine lv_if_lt (tgt := 11) hx hb dX4_roomOf_1 (by decide) (fun c_650 => ?_) (fun c_650 => ?_)
  · have h := ip c_650 h
    cases h
  · have h := iq c_650 h
    refine lv_iload_n hx hb dX4_roomOf_4 rfl (lv_at hl 1 rfl) ?_
    refine lv_sipush (v := 512) hx hb dX4_roomOf_5 (by decide) ?_
    refine lv_icmp_lt (tgt := 21) hx hb dX4_roomOf_8 (by decide) (fun c_651 => ?_) (fun c_651 => ?_)
    · have h := ip c_651 h
      refine lv_aload_n hx hb dX4_roomOf_21 rfl (lv_at hl 0 rfl) ?_
      refine va_get (D := G.1) (ci := 4) (v := .ref r0) (C := RX4) (T := TX4) (N := 4) hx hb hts hinX4 hown hK.1 hP 0 rfl rfl 2 (by decide) lk26 (fun _ h9 => h9) rfl dX4_roomOf_22 ?_
      refine lv_iload_n hx hb dX4_roomOf_25 rfl (lv_at hl 1 rfl) ?_
      obtain ⟨u_652, hc_653, h⟩ := bd_inv h
      refine wafter_i (wr := [(c0, .inr (4, [.ref l0, .ref m0, .ref r0, .ref g0])), (l0, .inr (1, [.ref l1, .ref l2, .ref l3, .int l_n])), (l1, .inl (G.2.1, 9, .inl l_a)), (l2, .inl (G.2.1, 9, .inl l_b)), (l3, .inl (G.2.1, 9, .inl l_c)), (m0, .inr (2, [.ref m1, .ref m2, .ref m3, .ref m4, .ref m5, .int m_n])), (m1, .inl (G.2.1, 36, .inl m_x)), (m2, .inl (G.2.1, 36, .inl m_y)), (m3, .inl (G.2.1, 36, .inl m_d)), (m4, .inl (G.2.1, 36, .inl m_t)), (m5, .inl (G.2.1, 36, .inl m_v)), (g0, .inr (0, [.long g_e]))]) (w2 := (w_C G c0 l0 l1 l2 l3 m0 m1 m2 m3 m4 m5 r0 r1 r2 r3 g0 g_e l_a l_b l_c l_n m_x m_y m_d m_t m_v m_n r_s r_n r_w r_k)) (va_runV (As := [.int x1]) (rest := []) ⟨hx, hb, hml, hown, hts⟩ (kX3_numberOf (l := l) (G := G) r0 r1 r2 r3 r_s r_n r_w r_k x1 N u_652 hc_653 _) (cwV 1 hts gX4_roomOf_X3_numberOf rfl rfl rfl (by decide +kernel) ⟨Nat.le_of_ble_eq_true rfl, Nat.le_of_ble_eq_true rfl⟩) (wPreV hP hD hK [11, 12, 13, 14] rfl rfl (ci := 3) (qb := 11) rfl rfl rfl) rfl rfl hl.1 rfl (lv_room (Nat.le_of_ble_eq_true rfl)) dX4_roomOf_26 ⟨Nat.zero_le _, Nat.zero_le _⟩) hP hD hS hA [11, 12, 13, 14] [0, 1, 2, 3, 4, 5, 6, 7, 8, 9, 10, 15] [0, 1, 2, 3, 4, 5, 6, 7, 8, 9, 10, 12, 13, 14, 15, 11] rfl rfl rfl (by decide) rfl rfl (fun H locs hP hD hS => ?_)
      obtain rfl := Sum.inr.inj (Option.some.inj h)
      exact wri hx hb hr hlocks hP hD hS (Nat.le_of_ble_eq_true rfl) (Nat.le_of_ble_eq_true rfl) rfl dX4_roomOf_29
    · have h := iq c_651 h
      cases h
def fX4_checkPlace (N : Nat) (x0 : Int32) : Option (String ⊕ (Unit)) := if 0 ≤ x0 then some (.inr ()) else some (.inl xIOO)
set_option maxHeartbeats 4000000 in
set_option maxRecDepth 100000 in
theorem nX4_checkPlace {l : Launch} {G : wG} (x0 : Int32) (N : Nat) (v : Unit) (h : fX4_checkPlace N x0 = some (.inr v)) : wCv l G yX4_checkPlace wsX4_checkPlace ({ frames := 6, cells := 0, slots := 0, locals := 100 } : Room) [.int x0] [] [] 0 0 := by
  refine wCv.mk (cc := cX4_checkPlace) (maxL := 1) (by decide) rfl (Nat.le_of_ble_eq_true rfl) ?_
  intro p e s m below meth c A ls hx hb hml hr hlocks hts hown hK hA hP hD hl
  have hx : p.tables.exec = Jvm.exec := hx
  have hown : s.vm.findClass RX4 = some m.cls := hown
  have hS : va_S A s.heap s.heap [] := va_S.rf
  have hP : va_P G.1 vwCl [] s.heap := hP
  have hD : va_D A [] := hD
  have hl : lv_has ls 1 [(0, .int x0)] := hl
  obtain ⟨args, hargs⟩ : ∃ z : Array Value, z = ([.int x0] : List Value).toArray := ⟨_, rfl⟩
  rw [← hargs]
  rw [← hargs] at hts
  rw [fX4_checkPlace.eq_1] at h
  refine lv_iload_n hx hb dX4_checkPlace_0 rfl (lv_at hl 0 rfl) ?_
  refine lv_if_ge (tgt := 14) hx hb dX4_checkPlace_1 (by decide) (fun c_654 => ?_) (fun c_654 => ?_)
  · have h := ip c_654 h
    obtain rfl := Sum.inr.inj (Option.some.inj h)
    exact wrv hx hb hr hlocks hP hD hS (Nat.le_of_ble_eq_true rfl) (Nat.le_of_ble_eq_true rfl) dX4_checkPlace_14
  · have h := iq c_654 h
    cases h
def fX4_corner (N : Nat) (m_t : Nat → Int32) (m_v : Nat → Int32) (m_n : Int32) (r_s : Nat → Int32) (r_k : Int32) (x1 : Int32) (x2 : Int32) : Option (String ⊕ (Int32)) := bdx (fX4_checkRoom N r_k x1) (fun u_655 => bdx (fX4_checkPlace N x2) (fun u_657 => bd (fX3_set N r_s x1) (fun u_659 => bd (fX2_cornerAt N m_t m_v m_n u_659 x2) (fun u_661 => some (.inr u_661)))))
set_option maxHeartbeats 4000000 in
set_option maxRecDepth 100000 in
theorem nX4_corner {l : Launch} {G : wG} (c0 l0 l1 l2 l3 m0 m1 m2 m3 m4 m5 r0 r1 r2 r3 g0 : Nat) (g_e : Int64) (l_a : Nat → Int32) (l_b : Nat → Int32) (l_c : Nat → Int32) (l_n : Int32) (m_x : Nat → Int32) (m_y : Nat → Int32) (m_d : Nat → Int32) (m_t : Nat → Int32) (m_v : Nat → Int32) (m_n : Int32) (r_s : Nat → Int32) (r_n : Nat → Int32) (r_w : Nat → Int32) (r_k : Int32) (x1 : Int32) (x2 : Int32) (N : Nat) (v : Int32) (h : fX4_corner N m_t m_v m_n r_s r_k x1 x2 = some (.inr v)) : wCi l G yX4_corner wsX4_corner ({ frames := 7, cells := 0, slots := 0, locals := 121 } : Room) [.ref c0, .int x1, .int x2] (w_C G c0 l0 l1 l2 l3 m0 m1 m2 m3 m4 m5 r0 r1 r2 r3 g0 g_e l_a l_b l_c l_n m_x m_y m_d m_t m_v m_n r_s r_n r_w r_k) (w_C G c0 l0 l1 l2 l3 m0 m1 m2 m3 m4 m5 r0 r1 r2 r3 g0 g_e l_a l_b l_c l_n m_x m_y m_d m_t m_v m_n r_s r_n r_w r_k) 0 0 v := by
  refine wCi.mk (cc := cX4_corner) (maxL := 3) (ty := .int) (by decide) rfl (Nat.le_of_ble_eq_true rfl) ?_
  intro p e s m below meth c A ls hx hb hml hr hlocks hts hown hK hA hP hD hl
  have hx : p.tables.exec = Jvm.exec := hx
  have hown : s.vm.findClass RX4 = some m.cls := hown
  have hinX4 : ∀ w ∈ wsX40, w ∈ wsX4_corner := by decide +kernel
  have lk19 := hts (.fieldLink RX4 19 "Chamberwright" "meets" "LChamberwright$Meets;") (by decide +kernel)
  have lk26 := hts (.fieldLink RX4 26 "Chamberwright" "rooms" "LChamberwright$Rooms;") (by decide +kernel)
  have hS : va_S A s.heap s.heap [] := va_S.rf
  have hP : va_P G.1 vwCl (w_C G c0 l0 l1 l2 l3 m0 m1 m2 m3 m4 m5 r0 r1 r2 r3 g0 g_e l_a l_b l_c l_n m_x m_y m_d m_t m_v m_n r_s r_n r_w r_k) s.heap := hP
  have hD : va_D A (w_C G c0 l0 l1 l2 l3 m0 m1 m2 m3 m4 m5 r0 r1 r2 r3 g0 g_e l_a l_b l_c l_n m_x m_y m_d m_t m_v m_n r_s r_n r_w r_k) := hD
  have hl : lv_has ls 3 [(0, .ref c0), (1, .int x1), (2, .int x2)] := hl
  obtain ⟨args, hargs⟩ : ∃ z : Array Value, z = ([.ref c0, .int x1, .int x2] : List Value).toArray := ⟨_, rfl⟩
  rw [← hargs]
  rw [← hargs] at hts
  rw [fX4_corner.eq_1] at h
  refine lv_aload_n hx hb dX4_corner_0 rfl (lv_at hl 0 rfl) ?_
  refine lv_iload_n hx hb dX4_corner_1 rfl (lv_at hl 1 rfl) ?_
  obtain ⟨u_655, hc_656, h⟩ := bdx_n h
  refine wafter_v (wr := []) (w2 := (w_C G c0 l0 l1 l2 l3 m0 m1 m2 m3 m4 m5 r0 r1 r2 r3 g0 g_e l_a l_b l_c l_n m_x m_y m_d m_t m_v m_n r_s r_n r_w r_k)) (va_runV (As := [.int x1]) (rest := []) ⟨hx, hb, hml, hown, hts⟩ (nX4_checkRoom (l := l) (G := G) c0 l0 l1 l2 l3 m0 m1 m2 m3 m4 m5 r0 r1 r2 r3 g0 g_e l_a l_b l_c l_n m_x m_y m_d m_t m_v m_n r_s r_n r_w r_k x1 N u_655 hc_656 _) (cwV 1 hts gX4_corner_X4_checkRoom rfl rfl rfl (by decide +kernel) ⟨Nat.le_of_ble_eq_true rfl, Nat.le_of_ble_eq_true rfl⟩) (wPreV hP hD hK [0, 1, 2, 3, 4, 5, 6, 7, 8, 9, 10, 11, 12, 13, 14, 15] rfl rfl (ci := 4) (qb := 0) rfl rfl rfl) rfl rfl hl.1 rfl (lv_room (Nat.le_of_ble_eq_true rfl)) dX4_corner_2 ⟨Nat.zero_le _, Nat.zero_le _⟩) hP hD hS hA [0, 1, 2, 3, 4, 5, 6, 7, 8, 9, 10, 11, 12, 13, 14, 15] [] [0, 1, 2, 3, 4, 5, 6, 7, 8, 9, 10, 11, 12, 13, 14, 15] rfl rfl rfl (by decide) rfl rfl (fun H locs hP hD hS => ?_)
  refine lv_iload_n hx hb dX4_corner_5 rfl (lv_at hl 2 rfl) ?_
  obtain ⟨u_657, hc_658, h⟩ := bdx_n h
  refine wafter_v (wr := (w_C G c0 l0 l1 l2 l3 m0 m1 m2 m3 m4 m5 r0 r1 r2 r3 g0 g_e l_a l_b l_c l_n m_x m_y m_d m_t m_v m_n r_s r_n r_w r_k)) (w2 := (w_C G c0 l0 l1 l2 l3 m0 m1 m2 m3 m4 m5 r0 r1 r2 r3 g0 g_e l_a l_b l_c l_n m_x m_y m_d m_t m_v m_n r_s r_n r_w r_k)) (va_runS (As := [.int x2]) (rest := []) ⟨hx, hb, hml, hown, hts⟩ (nX4_checkPlace (l := l) (G := G)   x2 N u_657 hc_658 _) (va_cwS 1 hts gX4_corner_X4_checkPlace rfl rfl rfl (by decide +kernel) ⟨Nat.le_of_ble_eq_true rfl, Nat.le_of_ble_eq_true rfl⟩) (wPreS hP hD hK [] rfl rfl) rfl rfl hl.1 rfl (lv_room (Nat.le_of_ble_eq_true rfl)) dX4_corner_6 ⟨Nat.zero_le _, Nat.zero_le _⟩) hP hD hS hA [] [0, 1, 2, 3, 4, 5, 6, 7, 8, 9, 10, 11, 12, 13, 14, 15] [0, 1, 2, 3, 4, 5, 6, 7, 8, 9, 10, 11, 12, 13, 14, 15] rfl rfl rfl (by decide) rfl rfl (fun H locs hP hD hS => ?_)
  refine lv_aload_n hx hb dX4_corner_9 rfl (lv_at hl 0 rfl) ?_
  refine va_get (D := G.1) (ci := 4) (v := .ref m0) (C := RX4) (T := TX4) (N := 4) hx hb hts hinX4 hown hK.1 hP 0 rfl rfl 1 (by decide) lk19 (fun _ h9 => h9) rfl dX4_corner_10 ?_
  refine lv_aload_n hx hb dX4_corner_13 rfl (lv_at hl 0 rfl) ?_
  refine va_get (D := G.1) (ci := 4) (v := .ref r0) (C := RX4) (T := TX4) (N := 4) hx hb hts hinX4 hown hK.1 hP 0 rfl rfl 2 (by decide) lk26 (fun _ h9 => h9) rfl dX4_corner_14 ?_
  refine lv_iload_n hx hb dX4_corner_17 rfl (lv_at hl 1 rfl) ?_
  obtain ⟨u_659, hc_660, h⟩ := bd_inv h
  refine wafter_i (wr := [(c0, .inr (4, [.ref l0, .ref m0, .ref r0, .ref g0])), (l0, .inr (1, [.ref l1, .ref l2, .ref l3, .int l_n])), (l1, .inl (G.2.1, 9, .inl l_a)), (l2, .inl (G.2.1, 9, .inl l_b)), (l3, .inl (G.2.1, 9, .inl l_c)), (m0, .inr (2, [.ref m1, .ref m2, .ref m3, .ref m4, .ref m5, .int m_n])), (m1, .inl (G.2.1, 36, .inl m_x)), (m2, .inl (G.2.1, 36, .inl m_y)), (m3, .inl (G.2.1, 36, .inl m_d)), (m4, .inl (G.2.1, 36, .inl m_t)), (m5, .inl (G.2.1, 36, .inl m_v)), (g0, .inr (0, [.long g_e]))]) (w2 := (w_C G c0 l0 l1 l2 l3 m0 m1 m2 m3 m4 m5 r0 r1 r2 r3 g0 g_e l_a l_b l_c l_n m_x m_y m_d m_t m_v m_n r_s r_n r_w r_k)) (va_runV (As := [.int x1]) (rest := [.ref m0]) ⟨hx, hb, hml, hown, hts⟩ (kX3_set (l := l) (G := G) r0 r1 r2 r3 r_s r_n r_w r_k x1 N u_659 hc_660 _) (cwV 1 hts gX4_corner_X3_set rfl rfl rfl (by decide +kernel) ⟨Nat.le_of_ble_eq_true rfl, Nat.le_of_ble_eq_true rfl⟩) (wPreV hP hD hK [11, 12, 13, 14] rfl rfl (ci := 3) (qb := 11) rfl rfl rfl) rfl rfl hl.1 rfl (lv_room (Nat.le_of_ble_eq_true rfl)) dX4_corner_18 ⟨Nat.zero_le _, Nat.zero_le _⟩) hP hD hS hA [11, 12, 13, 14] [0, 1, 2, 3, 4, 5, 6, 7, 8, 9, 10, 15] [0, 1, 2, 3, 4, 5, 6, 7, 8, 9, 10, 12, 13, 14, 15, 11] rfl rfl rfl (by decide) rfl rfl (fun H locs hP hD hS => ?_)
  refine lv_iload_n hx hb dX4_corner_21 rfl (lv_at hl 2 rfl) ?_
  obtain ⟨u_661, hc_662, h⟩ := bd_inv h
  refine wafter_i (wr := [(c0, .inr (4, [.ref l0, .ref m0, .ref r0, .ref g0])), (l0, .inr (1, [.ref l1, .ref l2, .ref l3, .int l_n])), (l1, .inl (G.2.1, 9, .inl l_a)), (l2, .inl (G.2.1, 9, .inl l_b)), (l3, .inl (G.2.1, 9, .inl l_c)), (r0, .inr (3, [.ref r1, .ref r2, .ref r3, .int r_k])), (r1, .inl (G.2.1, 46, .inl r_s)), (r2, .inl (G.2.1, 512, .inl r_n)), (r3, .inl (G.2.1, 512, .inl r_w)), (g0, .inr (0, [.long g_e]))]) (w2 := (w_C G c0 l0 l1 l2 l3 m0 m1 m2 m3 m4 m5 r0 r1 r2 r3 g0 g_e l_a l_b l_c l_n m_x m_y m_d m_t m_v m_n r_s r_n r_w r_k)) (va_runV (As := [.int u_659, .int x2]) (rest := []) ⟨hx, hb, hml, hown, hts⟩ (kX2_cornerAt (l := l) (G := G) m0 m1 m2 m3 m4 m5 m_x m_y m_d m_t m_v m_n u_659 x2 N u_661 hc_662 _) (cwV 2 hts gX4_corner_X2_cornerAt rfl rfl rfl (by decide +kernel) ⟨Nat.le_of_ble_eq_true rfl, Nat.le_of_ble_eq_true rfl⟩) (wPreV hP hD hK [5, 6, 7, 8, 9, 10] rfl rfl (ci := 2) (qb := 5) rfl rfl rfl) rfl rfl hl.1 rfl (lv_room (Nat.le_of_ble_eq_true rfl)) dX4_corner_22 ⟨Nat.zero_le _, Nat.zero_le _⟩) hP hD hS hA [5, 6, 7, 8, 9, 10] [0, 1, 2, 3, 4, 11, 12, 13, 14, 15] [0, 1, 2, 3, 4, 10, 11, 12, 13, 14, 15, 5, 6, 7, 8, 9] rfl rfl rfl (by decide) rfl rfl (fun H locs hP hD hS => ?_)
  obtain rfl := Sum.inr.inj (Option.some.inj h)
  exact wri hx hb hr hlocks hP hD hS (Nat.le_of_ble_eq_true rfl) (Nat.le_of_ble_eq_true rfl) rfl dX4_corner_25
def fX4_galleries (N : Nat) (r_s : Nat → Int32) (r_n : Nat → Int32) (r_w : Nat → Int32) (r_k : Int32) (x1 : Int32) (x2 : Int32) : Option (String ⊕ (Int32 × (Nat → Int32))) := bdx (fX4_checkRoom N r_k x1) (fun u_663 => bdx (fX4_checkRoom N r_k x2) (fun u_665 => bd (fX3_shortestWays N r_s r_n r_w x1 x2) (fun u_667 => some (.inr (u_667.1, u_667.2)))))
set_option maxHeartbeats 4000000 in
set_option maxRecDepth 100000 in
theorem nX4_galleries {l : Launch} {G : wG} (c0 l0 l1 l2 l3 m0 m1 m2 m3 m4 m5 r0 r1 r2 r3 g0 : Nat) (g_e : Int64) (l_a : Nat → Int32) (l_b : Nat → Int32) (l_c : Nat → Int32) (l_n : Int32) (m_x : Nat → Int32) (m_y : Nat → Int32) (m_d : Nat → Int32) (m_t : Nat → Int32) (m_v : Nat → Int32) (m_n : Int32) (r_s : Nat → Int32) (r_n : Nat → Int32) (r_w : Nat → Int32) (r_k : Int32) (x1 : Int32) (x2 : Int32) (N : Nat) (v : Int32 × (Nat → Int32)) (h : fX4_galleries N r_s r_n r_w r_k x1 x2 = some (.inr v)) : wCi l G yX4_galleries wsX4_galleries ({ frames := 7, cells := 0, slots := 0, locals := 121 } : Room) [.ref c0, .int x1, .int x2] (w_C G c0 l0 l1 l2 l3 m0 m1 m2 m3 m4 m5 r0 r1 r2 r3 g0 g_e l_a l_b l_c l_n m_x m_y m_d m_t m_v m_n r_s r_n r_w r_k) (w_C G c0 l0 l1 l2 l3 m0 m1 m2 m3 m4 m5 r0 r1 r2 r3 g0 g_e l_a l_b l_c l_n m_x m_y m_d m_t m_v m_n r_s r_n v.2 r_k) 0 0 v.1 := by
  refine wCi.mk (cc := cX4_galleries) (maxL := 3) (ty := .int) (by decide) rfl (Nat.le_of_ble_eq_true rfl) ?_
  intro p e s m below meth c A ls hx hb hml hr hlocks hts hown hK hA hP hD hl
  have hx : p.tables.exec = Jvm.exec := hx
  have hown : s.vm.findClass RX4 = some m.cls := hown
  have hinX4 : ∀ w ∈ wsX40, w ∈ wsX4_galleries := by decide +kernel
  have lk26 := hts (.fieldLink RX4 26 "Chamberwright" "rooms" "LChamberwright$Rooms;") (by decide +kernel)
  have hS : va_S A s.heap s.heap [] := va_S.rf
  have hP : va_P G.1 vwCl (w_C G c0 l0 l1 l2 l3 m0 m1 m2 m3 m4 m5 r0 r1 r2 r3 g0 g_e l_a l_b l_c l_n m_x m_y m_d m_t m_v m_n r_s r_n r_w r_k) s.heap := hP
  have hD : va_D A (w_C G c0 l0 l1 l2 l3 m0 m1 m2 m3 m4 m5 r0 r1 r2 r3 g0 g_e l_a l_b l_c l_n m_x m_y m_d m_t m_v m_n r_s r_n r_w r_k) := hD
  have hl : lv_has ls 3 [(0, .ref c0), (1, .int x1), (2, .int x2)] := hl
  obtain ⟨args, hargs⟩ : ∃ z : Array Value, z = ([.ref c0, .int x1, .int x2] : List Value).toArray := ⟨_, rfl⟩
  rw [← hargs]
  rw [← hargs] at hts
  rw [fX4_galleries.eq_1] at h
  refine lv_aload_n hx hb dX4_galleries_0 rfl (lv_at hl 0 rfl) ?_
  refine lv_iload_n hx hb dX4_galleries_1 rfl (lv_at hl 1 rfl) ?_
  obtain ⟨u_663, hc_664, h⟩ := bdx_n h
  refine wafter_v (wr := []) (w2 := (w_C G c0 l0 l1 l2 l3 m0 m1 m2 m3 m4 m5 r0 r1 r2 r3 g0 g_e l_a l_b l_c l_n m_x m_y m_d m_t m_v m_n r_s r_n r_w r_k)) (va_runV (As := [.int x1]) (rest := []) ⟨hx, hb, hml, hown, hts⟩ (nX4_checkRoom (l := l) (G := G) c0 l0 l1 l2 l3 m0 m1 m2 m3 m4 m5 r0 r1 r2 r3 g0 g_e l_a l_b l_c l_n m_x m_y m_d m_t m_v m_n r_s r_n r_w r_k x1 N u_663 hc_664 _) (cwV 1 hts gX4_galleries_X4_checkRoom rfl rfl rfl (by decide +kernel) ⟨Nat.le_of_ble_eq_true rfl, Nat.le_of_ble_eq_true rfl⟩) (wPreV hP hD hK [0, 1, 2, 3, 4, 5, 6, 7, 8, 9, 10, 11, 12, 13, 14, 15] rfl rfl (ci := 4) (qb := 0) rfl rfl rfl) rfl rfl hl.1 rfl (lv_room (Nat.le_of_ble_eq_true rfl)) dX4_galleries_2 ⟨Nat.zero_le _, Nat.zero_le _⟩) hP hD hS hA [0, 1, 2, 3, 4, 5, 6, 7, 8, 9, 10, 11, 12, 13, 14, 15] [] [0, 1, 2, 3, 4, 5, 6, 7, 8, 9, 10, 11, 12, 13, 14, 15] rfl rfl rfl (by decide) rfl rfl (fun H locs hP hD hS => ?_)
  refine lv_aload_n hx hb dX4_galleries_5 rfl (lv_at hl 0 rfl) ?_
  refine lv_iload_n hx hb dX4_galleries_6 rfl (lv_at hl 2 rfl) ?_
  obtain ⟨u_665, hc_666, h⟩ := bdx_n h
  refine wafter_v (wr := []) (w2 := (w_C G c0 l0 l1 l2 l3 m0 m1 m2 m3 m4 m5 r0 r1 r2 r3 g0 g_e l_a l_b l_c l_n m_x m_y m_d m_t m_v m_n r_s r_n r_w r_k)) (va_runV (As := [.int x2]) (rest := []) ⟨hx, hb, hml, hown, hts⟩ (nX4_checkRoom (l := l) (G := G) c0 l0 l1 l2 l3 m0 m1 m2 m3 m4 m5 r0 r1 r2 r3 g0 g_e l_a l_b l_c l_n m_x m_y m_d m_t m_v m_n r_s r_n r_w r_k x2 N u_665 hc_666 _) (cwV 1 hts gX4_galleries_X4_checkRoom rfl rfl rfl (by decide +kernel) ⟨Nat.le_of_ble_eq_true rfl, Nat.le_of_ble_eq_true rfl⟩) (wPreV hP hD hK [0, 1, 2, 3, 4, 5, 6, 7, 8, 9, 10, 11, 12, 13, 14, 15] rfl rfl (ci := 4) (qb := 0) rfl rfl rfl) rfl rfl hl.1 rfl (lv_room (Nat.le_of_ble_eq_true rfl)) dX4_galleries_7 ⟨Nat.zero_le _, Nat.zero_le _⟩) hP hD hS hA [0, 1, 2, 3, 4, 5, 6, 7, 8, 9, 10, 11, 12, 13, 14, 15] [] [0, 1, 2, 3, 4, 5, 6, 7, 8, 9, 10, 11, 12, 13, 14, 15] rfl rfl rfl (by decide) rfl rfl (fun H locs hP hD hS => ?_)
  refine lv_aload_n hx hb dX4_galleries_10 rfl (lv_at hl 0 rfl) ?_
  refine va_get (D := G.1) (ci := 4) (v := .ref r0) (C := RX4) (T := TX4) (N := 4) hx hb hts hinX4 hown hK.1 hP 0 rfl rfl 2 (by decide) lk26 (fun _ h9 => h9) rfl dX4_galleries_11 ?_
  refine lv_iload_n hx hb dX4_galleries_14 rfl (lv_at hl 1 rfl) ?_
  refine lv_iload_n hx hb dX4_galleries_15 rfl (lv_at hl 2 rfl) ?_
  obtain ⟨u_667, hc_668, h⟩ := bd_inv h
  refine wafter_i (wr := [(c0, .inr (4, [.ref l0, .ref m0, .ref r0, .ref g0])), (l0, .inr (1, [.ref l1, .ref l2, .ref l3, .int l_n])), (l1, .inl (G.2.1, 9, .inl l_a)), (l2, .inl (G.2.1, 9, .inl l_b)), (l3, .inl (G.2.1, 9, .inl l_c)), (m0, .inr (2, [.ref m1, .ref m2, .ref m3, .ref m4, .ref m5, .int m_n])), (m1, .inl (G.2.1, 36, .inl m_x)), (m2, .inl (G.2.1, 36, .inl m_y)), (m3, .inl (G.2.1, 36, .inl m_d)), (m4, .inl (G.2.1, 36, .inl m_t)), (m5, .inl (G.2.1, 36, .inl m_v)), (g0, .inr (0, [.long g_e]))]) (w2 := (w_C G c0 l0 l1 l2 l3 m0 m1 m2 m3 m4 m5 r0 r1 r2 r3 g0 g_e l_a l_b l_c l_n m_x m_y m_d m_t m_v m_n r_s r_n u_667.2 r_k)) (va_runV (As := [.int x1, .int x2]) (rest := []) ⟨hx, hb, hml, hown, hts⟩ (kX3_shortestWays (l := l) (G := G) r0 r1 r2 r3 r_s r_n r_w r_k x1 x2 N u_667 hc_668 _) (cwV 2 hts gX4_galleries_X3_shortestWays rfl rfl rfl (by decide +kernel) ⟨Nat.le_of_ble_eq_true rfl, Nat.le_of_ble_eq_true rfl⟩) (wPreV hP hD hK [11, 12, 13, 14] rfl rfl (ci := 3) (qb := 11) rfl rfl rfl) rfl rfl hl.1 rfl (lv_room (Nat.le_of_ble_eq_true rfl)) dX4_galleries_16 ⟨Nat.zero_le _, Nat.zero_le _⟩) hP hD hS hA [11, 12, 13, 14] [0, 1, 2, 3, 4, 5, 6, 7, 8, 9, 10, 15] [0, 1, 2, 3, 4, 5, 6, 7, 8, 9, 10, 12, 13, 14, 15, 11] rfl rfl rfl (by decide) rfl rfl (fun H locs hP hD hS => ?_)
  obtain rfl := Sum.inr.inj (Option.some.inj h)
  exact wri hx hb hr hlocks hP hD hS (Nat.le_of_ble_eq_true rfl) (Nat.le_of_ble_eq_true rfl) rfl dX4_galleries_19
def fX4_gallery (N : Nat) (r_s : Nat → Int32) (r_n : Nat → Int32) (r_k : Int32) (x1 : Int32) (x2 : Int32) (x3 : Int32) : Option (String ⊕ (Int32)) := bdx (fX4_checkRoom N r_k x1) (fun u_669 => bdx (fX4_checkRoom N r_k x2) (fun u_671 => bdx (fX4_checkPlace N x3) (fun u_673 => bd (fX3_onFirstWay N r_s r_n x1 x2 x3) (fun u_675 => some (.inr u_675)))))
set_option maxHeartbeats 4000000 in
set_option maxRecDepth 100000 in
theorem nX4_gallery {l : Launch} {G : wG} (c0 l0 l1 l2 l3 m0 m1 m2 m3 m4 m5 r0 r1 r2 r3 g0 : Nat) (g_e : Int64) (l_a : Nat → Int32) (l_b : Nat → Int32) (l_c : Nat → Int32) (l_n : Int32) (m_x : Nat → Int32) (m_y : Nat → Int32) (m_d : Nat → Int32) (m_t : Nat → Int32) (m_v : Nat → Int32) (m_n : Int32) (r_s : Nat → Int32) (r_n : Nat → Int32) (r_w : Nat → Int32) (r_k : Int32) (x1 : Int32) (x2 : Int32) (x3 : Int32) (N : Nat) (v : Int32) (h : fX4_gallery N r_s r_n r_k x1 x2 x3 = some (.inr v)) : wCi l G yX4_gallery wsX4_gallery ({ frames := 7, cells := 0, slots := 0, locals := 121 } : Room) [.ref c0, .int x1, .int x2, .int x3] (w_C G c0 l0 l1 l2 l3 m0 m1 m2 m3 m4 m5 r0 r1 r2 r3 g0 g_e l_a l_b l_c l_n m_x m_y m_d m_t m_v m_n r_s r_n r_w r_k) (w_C G c0 l0 l1 l2 l3 m0 m1 m2 m3 m4 m5 r0 r1 r2 r3 g0 g_e l_a l_b l_c l_n m_x m_y m_d m_t m_v m_n r_s r_n r_w r_k) 0 0 v := by
  refine wCi.mk (cc := cX4_gallery) (maxL := 4) (ty := .int) (by decide) rfl (Nat.le_of_ble_eq_true rfl) ?_
  intro p e s m below meth c A ls hx hb hml hr hlocks hts hown hK hA hP hD hl
  have hx : p.tables.exec = Jvm.exec := hx
  have hown : s.vm.findClass RX4 = some m.cls := hown
  have hinX4 : ∀ w ∈ wsX40, w ∈ wsX4_gallery := by decide +kernel
  have lk26 := hts (.fieldLink RX4 26 "Chamberwright" "rooms" "LChamberwright$Rooms;") (by decide +kernel)
  have hS : va_S A s.heap s.heap [] := va_S.rf
  have hP : va_P G.1 vwCl (w_C G c0 l0 l1 l2 l3 m0 m1 m2 m3 m4 m5 r0 r1 r2 r3 g0 g_e l_a l_b l_c l_n m_x m_y m_d m_t m_v m_n r_s r_n r_w r_k) s.heap := hP
  have hD : va_D A (w_C G c0 l0 l1 l2 l3 m0 m1 m2 m3 m4 m5 r0 r1 r2 r3 g0 g_e l_a l_b l_c l_n m_x m_y m_d m_t m_v m_n r_s r_n r_w r_k) := hD
  have hl : lv_has ls 4 [(0, .ref c0), (1, .int x1), (2, .int x2), (3, .int x3)] := hl
  obtain ⟨args, hargs⟩ : ∃ z : Array Value, z = ([.ref c0, .int x1, .int x2, .int x3] : List Value).toArray := ⟨_, rfl⟩
  rw [← hargs]
  rw [← hargs] at hts
  rw [fX4_gallery.eq_1] at h
  refine lv_aload_n hx hb dX4_gallery_0 rfl (lv_at hl 0 rfl) ?_
  refine lv_iload_n hx hb dX4_gallery_1 rfl (lv_at hl 1 rfl) ?_
  obtain ⟨u_669, hc_670, h⟩ := bdx_n h
  refine wafter_v (wr := []) (w2 := (w_C G c0 l0 l1 l2 l3 m0 m1 m2 m3 m4 m5 r0 r1 r2 r3 g0 g_e l_a l_b l_c l_n m_x m_y m_d m_t m_v m_n r_s r_n r_w r_k)) (va_runV (As := [.int x1]) (rest := []) ⟨hx, hb, hml, hown, hts⟩ (nX4_checkRoom (l := l) (G := G) c0 l0 l1 l2 l3 m0 m1 m2 m3 m4 m5 r0 r1 r2 r3 g0 g_e l_a l_b l_c l_n m_x m_y m_d m_t m_v m_n r_s r_n r_w r_k x1 N u_669 hc_670 _) (cwV 1 hts gX4_gallery_X4_checkRoom rfl rfl rfl (by decide +kernel) ⟨Nat.le_of_ble_eq_true rfl, Nat.le_of_ble_eq_true rfl⟩) (wPreV hP hD hK [0, 1, 2, 3, 4, 5, 6, 7, 8, 9, 10, 11, 12, 13, 14, 15] rfl rfl (ci := 4) (qb := 0) rfl rfl rfl) rfl rfl hl.1 rfl (lv_room (Nat.le_of_ble_eq_true rfl)) dX4_gallery_2 ⟨Nat.zero_le _, Nat.zero_le _⟩) hP hD hS hA [0, 1, 2, 3, 4, 5, 6, 7, 8, 9, 10, 11, 12, 13, 14, 15] [] [0, 1, 2, 3, 4, 5, 6, 7, 8, 9, 10, 11, 12, 13, 14, 15] rfl rfl rfl (by decide) rfl rfl (fun H locs hP hD hS => ?_)
  refine lv_aload_n hx hb dX4_gallery_5 rfl (lv_at hl 0 rfl) ?_
  refine lv_iload_n hx hb dX4_gallery_6 rfl (lv_at hl 2 rfl) ?_
  obtain ⟨u_671, hc_672, h⟩ := bdx_n h
  refine wafter_v (wr := []) (w2 := (w_C G c0 l0 l1 l2 l3 m0 m1 m2 m3 m4 m5 r0 r1 r2 r3 g0 g_e l_a l_b l_c l_n m_x m_y m_d m_t m_v m_n r_s r_n r_w r_k)) (va_runV (As := [.int x2]) (rest := []) ⟨hx, hb, hml, hown, hts⟩ (nX4_checkRoom (l := l) (G := G) c0 l0 l1 l2 l3 m0 m1 m2 m3 m4 m5 r0 r1 r2 r3 g0 g_e l_a l_b l_c l_n m_x m_y m_d m_t m_v m_n r_s r_n r_w r_k x2 N u_671 hc_672 _) (cwV 1 hts gX4_gallery_X4_checkRoom rfl rfl rfl (by decide +kernel) ⟨Nat.le_of_ble_eq_true rfl, Nat.le_of_ble_eq_true rfl⟩) (wPreV hP hD hK [0, 1, 2, 3, 4, 5, 6, 7, 8, 9, 10, 11, 12, 13, 14, 15] rfl rfl (ci := 4) (qb := 0) rfl rfl rfl) rfl rfl hl.1 rfl (lv_room (Nat.le_of_ble_eq_true rfl)) dX4_gallery_7 ⟨Nat.zero_le _, Nat.zero_le _⟩) hP hD hS hA [0, 1, 2, 3, 4, 5, 6, 7, 8, 9, 10, 11, 12, 13, 14, 15] [] [0, 1, 2, 3, 4, 5, 6, 7, 8, 9, 10, 11, 12, 13, 14, 15] rfl rfl rfl (by decide) rfl rfl (fun H locs hP hD hS => ?_)
  refine lv_iload_n hx hb dX4_gallery_10 rfl (lv_at hl 3 rfl) ?_
  obtain ⟨u_673, hc_674, h⟩ := bdx_n h
  refine wafter_v (wr := (w_C G c0 l0 l1 l2 l3 m0 m1 m2 m3 m4 m5 r0 r1 r2 r3 g0 g_e l_a l_b l_c l_n m_x m_y m_d m_t m_v m_n r_s r_n r_w r_k)) (w2 := (w_C G c0 l0 l1 l2 l3 m0 m1 m2 m3 m4 m5 r0 r1 r2 r3 g0 g_e l_a l_b l_c l_n m_x m_y m_d m_t m_v m_n r_s r_n r_w r_k)) (va_runS (As := [.int x3]) (rest := []) ⟨hx, hb, hml, hown, hts⟩ (nX4_checkPlace (l := l) (G := G)   x3 N u_673 hc_674 _) (va_cwS 1 hts gX4_gallery_X4_checkPlace rfl rfl rfl (by decide +kernel) ⟨Nat.le_of_ble_eq_true rfl, Nat.le_of_ble_eq_true rfl⟩) (wPreS hP hD hK [] rfl rfl) rfl rfl hl.1 rfl (lv_room (Nat.le_of_ble_eq_true rfl)) dX4_gallery_11 ⟨Nat.zero_le _, Nat.zero_le _⟩) hP hD hS hA [] [0, 1, 2, 3, 4, 5, 6, 7, 8, 9, 10, 11, 12, 13, 14, 15] [0, 1, 2, 3, 4, 5, 6, 7, 8, 9, 10, 11, 12, 13, 14, 15] rfl rfl rfl (by decide) rfl rfl (fun H locs hP hD hS => ?_)
  refine lv_aload_n hx hb dX4_gallery_14 rfl (lv_at hl 0 rfl) ?_
  refine va_get (D := G.1) (ci := 4) (v := .ref r0) (C := RX4) (T := TX4) (N := 4) hx hb hts hinX4 hown hK.1 hP 0 rfl rfl 2 (by decide) lk26 (fun _ h9 => h9) rfl dX4_gallery_15 ?_
  refine lv_iload_n hx hb dX4_gallery_18 rfl (lv_at hl 1 rfl) ?_
  refine lv_iload_n hx hb dX4_gallery_19 rfl (lv_at hl 2 rfl) ?_
  refine lv_iload_n hx hb dX4_gallery_20 rfl (lv_at hl 3 rfl) ?_
  obtain ⟨u_675, hc_676, h⟩ := bd_inv h
  refine wafter_i (wr := [(c0, .inr (4, [.ref l0, .ref m0, .ref r0, .ref g0])), (l0, .inr (1, [.ref l1, .ref l2, .ref l3, .int l_n])), (l1, .inl (G.2.1, 9, .inl l_a)), (l2, .inl (G.2.1, 9, .inl l_b)), (l3, .inl (G.2.1, 9, .inl l_c)), (m0, .inr (2, [.ref m1, .ref m2, .ref m3, .ref m4, .ref m5, .int m_n])), (m1, .inl (G.2.1, 36, .inl m_x)), (m2, .inl (G.2.1, 36, .inl m_y)), (m3, .inl (G.2.1, 36, .inl m_d)), (m4, .inl (G.2.1, 36, .inl m_t)), (m5, .inl (G.2.1, 36, .inl m_v)), (g0, .inr (0, [.long g_e]))]) (w2 := (w_C G c0 l0 l1 l2 l3 m0 m1 m2 m3 m4 m5 r0 r1 r2 r3 g0 g_e l_a l_b l_c l_n m_x m_y m_d m_t m_v m_n r_s r_n r_w r_k)) (va_runV (As := [.int x1, .int x2, .int x3]) (rest := []) ⟨hx, hb, hml, hown, hts⟩ (kX3_onFirstWay (l := l) (G := G) r0 r1 r2 r3 r_s r_n r_w r_k x1 x2 x3 N u_675 hc_676 _) (cwV 3 hts gX4_gallery_X3_onFirstWay rfl rfl rfl (by decide +kernel) ⟨Nat.le_of_ble_eq_true rfl, Nat.le_of_ble_eq_true rfl⟩) (wPreV hP hD hK [11, 12, 13, 14] rfl rfl (ci := 3) (qb := 11) rfl rfl rfl) rfl rfl hl.1 rfl (lv_room (Nat.le_of_ble_eq_true rfl)) dX4_gallery_21 ⟨Nat.zero_le _, Nat.zero_le _⟩) hP hD hS hA [11, 12, 13, 14] [0, 1, 2, 3, 4, 5, 6, 7, 8, 9, 10, 15] [0, 1, 2, 3, 4, 5, 6, 7, 8, 9, 10, 12, 13, 14, 15, 11] rfl rfl rfl (by decide) rfl rfl (fun H locs hP hD hS => ?_)
  obtain rfl := Sum.inr.inj (Option.some.inj h)
  exact wri hx hb hr hlocks hP hD hS (Nat.le_of_ble_eq_true rfl) (Nat.le_of_ble_eq_true rfl) rfl dX4_gallery_24
def fX4_project (N : Nat) (m_t : Nat → Int32) (m_v : Nat → Int32) (m_n : Int32) (r_s : Nat → Int32) (r_n : Nat → Int32) (r_k : Int32) (x1 : Int32) (x2 : Int32) : Option (String ⊕ (Int32)) := bdx (fX4_checkRoom N r_k x1) (fun u_677 => bdx (fX4_checkMeet N m_n x2) (fun u_679 => bd (fX3_set N r_s x1) (fun u_681 => bd (fX2_projected N m_t m_v x2 u_681) (fun u_683 => bd (fX3_numberOf N r_n u_683) (fun u_685 => some (.inr u_685))))))
set_option maxHeartbeats 4000000 in
set_option maxRecDepth 100000 in
theorem nX4_project {l : Launch} {G : wG} (c0 l0 l1 l2 l3 m0 m1 m2 m3 m4 m5 r0 r1 r2 r3 g0 : Nat) (g_e : Int64) (l_a : Nat → Int32) (l_b : Nat → Int32) (l_c : Nat → Int32) (l_n : Int32) (m_x : Nat → Int32) (m_y : Nat → Int32) (m_d : Nat → Int32) (m_t : Nat → Int32) (m_v : Nat → Int32) (m_n : Int32) (r_s : Nat → Int32) (r_n : Nat → Int32) (r_w : Nat → Int32) (r_k : Int32) (x1 : Int32) (x2 : Int32) (N : Nat) (v : Int32) (h : fX4_project N m_t m_v m_n r_s r_n r_k x1 x2 = some (.inr v)) : wCi l G yX4_project wsX4_project ({ frames := 7, cells := 0, slots := 0, locals := 121 } : Room) [.ref c0, .int x1, .int x2] (w_C G c0 l0 l1 l2 l3 m0 m1 m2 m3 m4 m5 r0 r1 r2 r3 g0 g_e l_a l_b l_c l_n m_x m_y m_d m_t m_v m_n r_s r_n r_w r_k) (w_C G c0 l0 l1 l2 l3 m0 m1 m2 m3 m4 m5 r0 r1 r2 r3 g0 g_e l_a l_b l_c l_n m_x m_y m_d m_t m_v m_n r_s r_n r_w r_k) 0 0 v := by
  refine wCi.mk (cc := cX4_project) (maxL := 3) (ty := .int) (by decide) rfl (Nat.le_of_ble_eq_true rfl) ?_
  intro p e s m below meth c A ls hx hb hml hr hlocks hts hown hK hA hP hD hl
  have hx : p.tables.exec = Jvm.exec := hx
  have hown : s.vm.findClass RX4 = some m.cls := hown
  have hinX4 : ∀ w ∈ wsX40, w ∈ wsX4_project := by decide +kernel
  have lk19 := hts (.fieldLink RX4 19 "Chamberwright" "meets" "LChamberwright$Meets;") (by decide +kernel)
  have lk26 := hts (.fieldLink RX4 26 "Chamberwright" "rooms" "LChamberwright$Rooms;") (by decide +kernel)
  have hS : va_S A s.heap s.heap [] := va_S.rf
  have hP : va_P G.1 vwCl (w_C G c0 l0 l1 l2 l3 m0 m1 m2 m3 m4 m5 r0 r1 r2 r3 g0 g_e l_a l_b l_c l_n m_x m_y m_d m_t m_v m_n r_s r_n r_w r_k) s.heap := hP
  have hD : va_D A (w_C G c0 l0 l1 l2 l3 m0 m1 m2 m3 m4 m5 r0 r1 r2 r3 g0 g_e l_a l_b l_c l_n m_x m_y m_d m_t m_v m_n r_s r_n r_w r_k) := hD
  have hl : lv_has ls 3 [(0, .ref c0), (1, .int x1), (2, .int x2)] := hl
  obtain ⟨args, hargs⟩ : ∃ z : Array Value, z = ([.ref c0, .int x1, .int x2] : List Value).toArray := ⟨_, rfl⟩
  rw [← hargs]
  rw [← hargs] at hts
  rw [fX4_project.eq_1] at h
  refine lv_aload_n hx hb dX4_project_0 rfl (lv_at hl 0 rfl) ?_
  refine lv_iload_n hx hb dX4_project_1 rfl (lv_at hl 1 rfl) ?_
  obtain ⟨u_677, hc_678, h⟩ := bdx_n h
  refine wafter_v (wr := []) (w2 := (w_C G c0 l0 l1 l2 l3 m0 m1 m2 m3 m4 m5 r0 r1 r2 r3 g0 g_e l_a l_b l_c l_n m_x m_y m_d m_t m_v m_n r_s r_n r_w r_k)) (va_runV (As := [.int x1]) (rest := []) ⟨hx, hb, hml, hown, hts⟩ (nX4_checkRoom (l := l) (G := G) c0 l0 l1 l2 l3 m0 m1 m2 m3 m4 m5 r0 r1 r2 r3 g0 g_e l_a l_b l_c l_n m_x m_y m_d m_t m_v m_n r_s r_n r_w r_k x1 N u_677 hc_678 _) (cwV 1 hts gX4_project_X4_checkRoom rfl rfl rfl (by decide +kernel) ⟨Nat.le_of_ble_eq_true rfl, Nat.le_of_ble_eq_true rfl⟩) (wPreV hP hD hK [0, 1, 2, 3, 4, 5, 6, 7, 8, 9, 10, 11, 12, 13, 14, 15] rfl rfl (ci := 4) (qb := 0) rfl rfl rfl) rfl rfl hl.1 rfl (lv_room (Nat.le_of_ble_eq_true rfl)) dX4_project_2 ⟨Nat.zero_le _, Nat.zero_le _⟩) hP hD hS hA [0, 1, 2, 3, 4, 5, 6, 7, 8, 9, 10, 11, 12, 13, 14, 15] [] [0, 1, 2, 3, 4, 5, 6, 7, 8, 9, 10, 11, 12, 13, 14, 15] rfl rfl rfl (by decide) rfl rfl (fun H locs hP hD hS => ?_)
  refine lv_aload_n hx hb dX4_project_5 rfl (lv_at hl 0 rfl) ?_
  refine lv_iload_n hx hb dX4_project_6 rfl (lv_at hl 2 rfl) ?_
  obtain ⟨u_679, hc_680, h⟩ := bdx_n h
  refine wafter_v (wr := []) (w2 := (w_C G c0 l0 l1 l2 l3 m0 m1 m2 m3 m4 m5 r0 r1 r2 r3 g0 g_e l_a l_b l_c l_n m_x m_y m_d m_t m_v m_n r_s r_n r_w r_k)) (va_runV (As := [.int x2]) (rest := []) ⟨hx, hb, hml, hown, hts⟩ (nX4_checkMeet (l := l) (G := G) c0 l0 l1 l2 l3 m0 m1 m2 m3 m4 m5 r0 r1 r2 r3 g0 g_e l_a l_b l_c l_n m_x m_y m_d m_t m_v m_n r_s r_n r_w r_k x2 N u_679 hc_680 _) (cwV 1 hts gX4_project_X4_checkMeet rfl rfl rfl (by decide +kernel) ⟨Nat.le_of_ble_eq_true rfl, Nat.le_of_ble_eq_true rfl⟩) (wPreV hP hD hK [0, 1, 2, 3, 4, 5, 6, 7, 8, 9, 10, 11, 12, 13, 14, 15] rfl rfl (ci := 4) (qb := 0) rfl rfl rfl) rfl rfl hl.1 rfl (lv_room (Nat.le_of_ble_eq_true rfl)) dX4_project_7 ⟨Nat.zero_le _, Nat.zero_le _⟩) hP hD hS hA [0, 1, 2, 3, 4, 5, 6, 7, 8, 9, 10, 11, 12, 13, 14, 15] [] [0, 1, 2, 3, 4, 5, 6, 7, 8, 9, 10, 11, 12, 13, 14, 15] rfl rfl rfl (by decide) rfl rfl (fun H locs hP hD hS => ?_)
  refine lv_aload_n hx hb dX4_project_10 rfl (lv_at hl 0 rfl) ?_
  refine va_get (D := G.1) (ci := 4) (v := .ref r0) (C := RX4) (T := TX4) (N := 4) hx hb hts hinX4 hown hK.1 hP 0 rfl rfl 2 (by decide) lk26 (fun _ h9 => h9) rfl dX4_project_11 ?_
  refine lv_aload_n hx hb dX4_project_14 rfl (lv_at hl 0 rfl) ?_
  refine va_get (D := G.1) (ci := 4) (v := .ref m0) (C := RX4) (T := TX4) (N := 4) hx hb hts hinX4 hown hK.1 hP 0 rfl rfl 1 (by decide) lk19 (fun _ h9 => h9) rfl dX4_project_15 ?_
  refine lv_iload_n hx hb dX4_project_18 rfl (lv_at hl 2 rfl) ?_
  refine lv_aload_n hx hb dX4_project_19 rfl (lv_at hl 0 rfl) ?_
  refine va_get (D := G.1) (ci := 4) (v := .ref r0) (C := RX4) (T := TX4) (N := 4) hx hb hts hinX4 hown hK.1 hP 0 rfl rfl 2 (by decide) lk26 (fun _ h9 => h9) rfl dX4_project_20 ?_
  refine lv_iload_n hx hb dX4_project_23 rfl (lv_at hl 1 rfl) ?_
  obtain ⟨u_681, hc_682, h⟩ := bd_inv h
  refine wafter_i (wr := [(c0, .inr (4, [.ref l0, .ref m0, .ref r0, .ref g0])), (l0, .inr (1, [.ref l1, .ref l2, .ref l3, .int l_n])), (l1, .inl (G.2.1, 9, .inl l_a)), (l2, .inl (G.2.1, 9, .inl l_b)), (l3, .inl (G.2.1, 9, .inl l_c)), (m0, .inr (2, [.ref m1, .ref m2, .ref m3, .ref m4, .ref m5, .int m_n])), (m1, .inl (G.2.1, 36, .inl m_x)), (m2, .inl (G.2.1, 36, .inl m_y)), (m3, .inl (G.2.1, 36, .inl m_d)), (m4, .inl (G.2.1, 36, .inl m_t)), (m5, .inl (G.2.1, 36, .inl m_v)), (g0, .inr (0, [.long g_e]))]) (w2 := (w_C G c0 l0 l1 l2 l3 m0 m1 m2 m3 m4 m5 r0 r1 r2 r3 g0 g_e l_a l_b l_c l_n m_x m_y m_d m_t m_v m_n r_s r_n r_w r_k)) (va_runV (As := [.int x1]) (rest := [.int x2, .ref m0, .ref r0]) ⟨hx, hb, hml, hown, hts⟩ (kX3_set (l := l) (G := G) r0 r1 r2 r3 r_s r_n r_w r_k x1 N u_681 hc_682 _) (cwV 1 hts gX4_project_X3_set rfl rfl rfl (by decide +kernel) ⟨Nat.le_of_ble_eq_true rfl, Nat.le_of_ble_eq_true rfl⟩) (wPreV hP hD hK [11, 12, 13, 14] rfl rfl (ci := 3) (qb := 11) rfl rfl rfl) rfl rfl hl.1 rfl (lv_room (Nat.le_of_ble_eq_true rfl)) dX4_project_24 ⟨Nat.zero_le _, Nat.zero_le _⟩) hP hD hS hA [11, 12, 13, 14] [0, 1, 2, 3, 4, 5, 6, 7, 8, 9, 10, 15] [0, 1, 2, 3, 4, 5, 6, 7, 8, 9, 10, 12, 13, 14, 15, 11] rfl rfl rfl (by decide) rfl rfl (fun H locs hP hD hS => ?_)
  obtain ⟨u_683, hc_684, h⟩ := bd_inv h
  refine wafter_i (wr := [(c0, .inr (4, [.ref l0, .ref m0, .ref r0, .ref g0])), (l0, .inr (1, [.ref l1, .ref l2, .ref l3, .int l_n])), (l1, .inl (G.2.1, 9, .inl l_a)), (l2, .inl (G.2.1, 9, .inl l_b)), (l3, .inl (G.2.1, 9, .inl l_c)), (r0, .inr (3, [.ref r1, .ref r2, .ref r3, .int r_k])), (r1, .inl (G.2.1, 46, .inl r_s)), (r2, .inl (G.2.1, 512, .inl r_n)), (r3, .inl (G.2.1, 512, .inl r_w)), (g0, .inr (0, [.long g_e]))]) (w2 := (w_C G c0 l0 l1 l2 l3 m0 m1 m2 m3 m4 m5 r0 r1 r2 r3 g0 g_e l_a l_b l_c l_n m_x m_y m_d m_t m_v m_n r_s r_n r_w r_k)) (va_runV (As := [.int x2, .int u_681]) (rest := [.ref r0]) ⟨hx, hb, hml, hown, hts⟩ (kX2_projected (l := l) (G := G) m0 m1 m2 m3 m4 m5 m_x m_y m_d m_t m_v m_n x2 u_681 N u_683 hc_684 _) (cwV 2 hts gX4_project_X2_projected rfl rfl rfl (by decide +kernel) ⟨Nat.le_of_ble_eq_true rfl, Nat.le_of_ble_eq_true rfl⟩) (wPreV hP hD hK [5, 6, 7, 8, 9, 10] rfl rfl (ci := 2) (qb := 5) rfl rfl rfl) rfl rfl hl.1 rfl (lv_room (Nat.le_of_ble_eq_true rfl)) dX4_project_27 ⟨Nat.zero_le _, Nat.zero_le _⟩) hP hD hS hA [5, 6, 7, 8, 9, 10] [0, 1, 2, 3, 4, 11, 12, 13, 14, 15] [0, 1, 2, 3, 4, 10, 11, 12, 13, 14, 15, 5, 6, 7, 8, 9] rfl rfl rfl (by decide) rfl rfl (fun H locs hP hD hS => ?_)
  obtain ⟨u_685, hc_686, h⟩ := bd_inv h
  refine wafter_i (wr := [(c0, .inr (4, [.ref l0, .ref m0, .ref r0, .ref g0])), (l0, .inr (1, [.ref l1, .ref l2, .ref l3, .int l_n])), (l1, .inl (G.2.1, 9, .inl l_a)), (l2, .inl (G.2.1, 9, .inl l_b)), (l3, .inl (G.2.1, 9, .inl l_c)), (m0, .inr (2, [.ref m1, .ref m2, .ref m3, .ref m4, .ref m5, .int m_n])), (m1, .inl (G.2.1, 36, .inl m_x)), (m2, .inl (G.2.1, 36, .inl m_y)), (m3, .inl (G.2.1, 36, .inl m_d)), (m4, .inl (G.2.1, 36, .inl m_t)), (m5, .inl (G.2.1, 36, .inl m_v)), (g0, .inr (0, [.long g_e]))]) (w2 := (w_C G c0 l0 l1 l2 l3 m0 m1 m2 m3 m4 m5 r0 r1 r2 r3 g0 g_e l_a l_b l_c l_n m_x m_y m_d m_t m_v m_n r_s r_n r_w r_k)) (va_runV (As := [.int u_683]) (rest := []) ⟨hx, hb, hml, hown, hts⟩ (kX3_numberOf (l := l) (G := G) r0 r1 r2 r3 r_s r_n r_w r_k u_683 N u_685 hc_686 _) (cwV 1 hts gX4_project_X3_numberOf rfl rfl rfl (by decide +kernel) ⟨Nat.le_of_ble_eq_true rfl, Nat.le_of_ble_eq_true rfl⟩) (wPreV hP hD hK [11, 12, 13, 14] rfl rfl (ci := 3) (qb := 11) rfl rfl rfl) rfl rfl hl.1 rfl (lv_room (Nat.le_of_ble_eq_true rfl)) dX4_project_30 ⟨Nat.zero_le _, Nat.zero_le _⟩) hP hD hS hA [11, 12, 13, 14] [0, 1, 2, 3, 4, 5, 6, 7, 8, 9, 10, 15] [0, 1, 2, 3, 4, 5, 6, 7, 8, 9, 10, 12, 13, 14, 15, 11] rfl rfl rfl (by decide) rfl rfl (fun H locs hP hD hS => ?_)
  obtain rfl := Sum.inr.inj (Option.some.inj h)
  exact wri hx hb hr hlocks hP hD hS (Nat.le_of_ble_eq_true rfl) (Nat.le_of_ble_eq_true rfl) rfl dX4_project_33
def fX4_best_b37 (N : Nat) (l_a : Nat → Int32) (l_b : Nat → Int32) (l_n : Int32) (m_x : Nat → Int32) (m_y : Nat → Int32) (m_d : Nat → Int32) (m_t : Nat → Int32) (m_v : Nat → Int32) (m_n : Int32) (r_s : Nat → Int32) (x1 : Int32) (x2 : Int32) (x3 : Int32) : Option (String ⊕ (Int32)) := bd (fX3_hasBound N l_a l_b l_n r_s x1 x2 x3) (fun u_687 => if u_687 = 0 then some (.inr ((-1))) else bd (fX3_set N r_s x1) (fun u_690 => bd (fX2_bestCorner N m_x m_y m_d m_t m_v m_n u_690 x2 x3) (fun u_692 => some (.inr u_692))))
def fX4_best (N : Nat) (l_a : Nat → Int32) (l_b : Nat → Int32) (l_n : Int32) (m_x : Nat → Int32) (m_y : Nat → Int32) (m_d : Nat → Int32) (m_t : Nat → Int32) (m_v : Nat → Int32) (m_n : Int32) (r_s : Nat → Int32) (r_k : Int32) (x1 : Int32) (x2 : Int32) (x3 : Int32) : Option (String ⊕ (Int32)) := bdx (fX4_checkRoom N r_k x1) (fun u_694 => bd (fX4_isTooFar N x2) (fun u_696 => if u_696 = 0 then bd (fX4_isTooFar N x3) (fun u_699 => if u_699 = 0 then if x2 = 0 then if x3 = 0 then some (.inl xIAE) else fX4_best_b37 N l_a l_b l_n m_x m_y m_d m_t m_v m_n r_s x1 x2 x3 else fX4_best_b37 N l_a l_b l_n m_x m_y m_d m_t m_v m_n r_s x1 x2 x3 else some (.inl xIAE)) else some (.inl xIAE)))
set_option maxHeartbeats 4000000 in
set_option maxRecDepth 100000 in
theorem nX4_best {l : Launch} {G : wG} (c0 l0 l1 l2 l3 m0 m1 m2 m3 m4 m5 r0 r1 r2 r3 g0 : Nat) (g_e : Int64) (l_a : Nat → Int32) (l_b : Nat → Int32) (l_c : Nat → Int32) (l_n : Int32) (m_x : Nat → Int32) (m_y : Nat → Int32) (m_d : Nat → Int32) (m_t : Nat → Int32) (m_v : Nat → Int32) (m_n : Int32) (r_s : Nat → Int32) (r_n : Nat → Int32) (r_w : Nat → Int32) (r_k : Int32) (x1 : Int32) (x2 : Int32) (x3 : Int32) (N : Nat) (v : Int32) (h : fX4_best N l_a l_b l_n m_x m_y m_d m_t m_v m_n r_s r_k x1 x2 x3 = some (.inr v)) : wCi l G yX4_best wsX4_best ({ frames := 7, cells := 0, slots := 0, locals := 121 } : Room) [.ref c0, .int x1, .int x2, .int x3] (w_C G c0 l0 l1 l2 l3 m0 m1 m2 m3 m4 m5 r0 r1 r2 r3 g0 g_e l_a l_b l_c l_n m_x m_y m_d m_t m_v m_n r_s r_n r_w r_k) (w_C G c0 l0 l1 l2 l3 m0 m1 m2 m3 m4 m5 r0 r1 r2 r3 g0 g_e l_a l_b l_c l_n m_x m_y m_d m_t m_v m_n r_s r_n r_w r_k) 0 0 v := by
  refine wCi.mk (cc := cX4_best) (maxL := 4) (ty := .int) (by decide) rfl (Nat.le_of_ble_eq_true rfl) ?_
  intro p e s m below meth c A ls hx hb hml hr hlocks hts hown hK hA hP hD hl
  have hx : p.tables.exec = Jvm.exec := hx
  have hown : s.vm.findClass RX4 = some m.cls := hown
  have hinX4 : ∀ w ∈ wsX40, w ∈ wsX4_best := by decide +kernel
  have lk10 := hts (.fieldLink RX4 10 "Chamberwright" "lines" "LChamberwright$Lines;") (by decide +kernel)
  have lk19 := hts (.fieldLink RX4 19 "Chamberwright" "meets" "LChamberwright$Meets;") (by decide +kernel)
  have lk26 := hts (.fieldLink RX4 26 "Chamberwright" "rooms" "LChamberwright$Rooms;") (by decide +kernel)
  have hS : va_S A s.heap s.heap [] := va_S.rf
  have hP : va_P G.1 vwCl (w_C G c0 l0 l1 l2 l3 m0 m1 m2 m3 m4 m5 r0 r1 r2 r3 g0 g_e l_a l_b l_c l_n m_x m_y m_d m_t m_v m_n r_s r_n r_w r_k) s.heap := hP
  have hD : va_D A (w_C G c0 l0 l1 l2 l3 m0 m1 m2 m3 m4 m5 r0 r1 r2 r3 g0 g_e l_a l_b l_c l_n m_x m_y m_d m_t m_v m_n r_s r_n r_w r_k) := hD
  have hl : lv_has ls 4 [(0, .ref c0), (1, .int x1), (2, .int x2), (3, .int x3)] := hl
  obtain ⟨args, hargs⟩ : ∃ z : Array Value, z = ([.ref c0, .int x1, .int x2, .int x3] : List Value).toArray := ⟨_, rfl⟩
  rw [← hargs]
  rw [← hargs] at hts
  have w_37 : ∀ (x1 : Int32) (x2 : Int32) (x3 : Int32)   (H : Heap) (locs : List Loc) (ls : Array Slot), va_P G.1 vwCl (w_C G c0 l0 l1 l2 l3 m0 m1 m2 m3 m4 m5 r0 r1 r2 r3 g0 g_e l_a l_b l_c l_n m_x m_y m_d m_t m_v m_n r_s r_n r_w r_k) H → va_D A (w_C G c0 l0 l1 l2 l3 m0 m1 m2 m3 m4 m5 r0 r1 r2 r3 g0 g_e l_a l_b l_c l_n m_x m_y m_d m_t m_v m_n r_s r_n r_w r_k) → va_S A s.heap H locs → lv_has ls 4 [(0, .ref c0), (1, .int x1), (2, .int x2), (3, .int x3)] → fX4_best_b37 N l_a l_b l_n m_x m_y m_d m_t m_v m_n r_s x1 x2 x3 = some (.inr v) → W p l e ({ frames := 7, cells := 0, slots := 0, locals := 121 } : Room) s m args below meth c H locs 0 0 (wQi G A below args s (w_C G c0 l0 l1 l2 l3 m0 m1 m2 m3 m4 m5 r0 r1 r2 r3 g0 g_e l_a l_b l_c l_n m_x m_y m_d m_t m_v m_n r_s r_n r_w r_k) 0 0 v) (F0 m 37 ls []) := by
    intro x1 x2 x3 H locs ls hP hD hS hl h
    rw [fX4_best_b37.eq_1] at h
    refine lv_aload_n hx hb dX4_best_37 rfl (lv_at hl 0 rfl) ?_
    refine va_get (D := G.1) (ci := 4) (v := .ref r0) (C := RX4) (T := TX4) (N := 4) hx hb hts hinX4 hown hK.1 hP 0 rfl rfl 2 (by decide) lk26 (fun _ h9 => h9) rfl dX4_best_38 ?_
    refine lv_aload_n hx hb dX4_best_41 rfl (lv_at hl 0 rfl) ?_
    refine va_get (D := G.1) (ci := 4) (v := .ref l0) (C := RX4) (T := TX4) (N := 4) hx hb hts hinX4 hown hK.1 hP 0 rfl rfl 0 (by decide) lk10 (fun _ h9 => h9) rfl dX4_best_42 ?_
    refine lv_iload_n hx hb dX4_best_45 rfl (lv_at hl 1 rfl) ?_
    refine lv_iload_n hx hb dX4_best_46 rfl (lv_at hl 2 rfl) ?_
    refine lv_iload_n hx hb dX4_best_47 rfl (lv_at hl 3 rfl) ?_
    obtain ⟨u_687, hc_688, h⟩ := bd_inv h
    refine wafter_i (wr := [(c0, .inr (4, [.ref l0, .ref m0, .ref r0, .ref g0])), (m0, .inr (2, [.ref m1, .ref m2, .ref m3, .ref m4, .ref m5, .int m_n])), (m1, .inl (G.2.1, 36, .inl m_x)), (m2, .inl (G.2.1, 36, .inl m_y)), (m3, .inl (G.2.1, 36, .inl m_d)), (m4, .inl (G.2.1, 36, .inl m_t)), (m5, .inl (G.2.1, 36, .inl m_v)), (g0, .inr (0, [.long g_e]))]) (w2 := (w_C G c0 l0 l1 l2 l3 m0 m1 m2 m3 m4 m5 r0 r1 r2 r3 g0 g_e l_a l_b l_c l_n m_x m_y m_d m_t m_v m_n r_s r_n r_w r_k)) (va_runV (As := [.ref l0, .int x1, .int x2, .int x3]) (rest := []) ⟨hx, hb, hml, hown, hts⟩ (kX3_hasBound (l := l) (G := G) r0 r1 r2 r3 l0 l1 l2 l3 l_a l_b l_c l_n r_s r_n r_w r_k x1 x2 x3 N u_687 hc_688 _) (cwV 4 hts gX4_best_X3_hasBound rfl rfl rfl (by decide +kernel) ⟨Nat.le_of_ble_eq_true rfl, Nat.le_of_ble_eq_true rfl⟩) (wPreV hP hD hK [11, 12, 13, 14, 1, 2, 3, 4] rfl rfl (ci := 3) (qb := 11) rfl rfl rfl) rfl rfl hl.1 rfl (lv_room (Nat.le_of_ble_eq_true rfl)) dX4_best_48 ⟨Nat.zero_le _, Nat.zero_le _⟩) hP hD hS hA [11, 12, 13, 14, 1, 2, 3, 4] [0, 5, 6, 7, 8, 9, 10, 15] [0, 12, 13, 14, 15, 1, 2, 3, 4, 5, 6, 8, 9, 10, 11, 7] rfl rfl rfl (by decide) rfl rfl (fun H locs hP hD hS => ?_)
    refine lv_if_eq (tgt := 74) hx hb dX4_best_51 (by decide) (fun c_689 => ?_) (fun c_689 => ?_)
    · have h := ip c_689 h
      refine lv_iconst (v := (-1)) hx hb dX4_best_74 (by decide) ?_
      obtain rfl := Sum.inr.inj (Option.some.inj h)
      exact wri hx hb hr hlocks hP hD hS (Nat.le_of_ble_eq_true rfl) (Nat.le_of_ble_eq_true rfl) rfl dX4_best_75
    · have h := iq c_689 h
      refine lv_aload_n hx hb dX4_best_54 rfl (lv_at hl 0 rfl) ?_
      refine va_get (D := G.1) (ci := 4) (v := .ref m0) (C := RX4) (T := TX4) (N := 4) hx hb hts hinX4 hown hK.1 hP 0 rfl rfl 1 (by decide) lk19 (fun _ h9 => h9) rfl dX4_best_55 ?_
      refine lv_aload_n hx hb dX4_best_58 rfl (lv_at hl 0 rfl) ?_
      refine va_get (D := G.1) (ci := 4) (v := .ref r0) (C := RX4) (T := TX4) (N := 4) hx hb hts hinX4 hown hK.1 hP 0 rfl rfl 2 (by decide) lk26 (fun _ h9 => h9) rfl dX4_best_59 ?_
      refine lv_iload_n hx hb dX4_best_62 rfl (lv_at hl 1 rfl) ?_
      obtain ⟨u_690, hc_691, h⟩ := bd_inv h
      refine wafter_i (wr := [(c0, .inr (4, [.ref l0, .ref m0, .ref r0, .ref g0])), (l0, .inr (1, [.ref l1, .ref l2, .ref l3, .int l_n])), (l1, .inl (G.2.1, 9, .inl l_a)), (l2, .inl (G.2.1, 9, .inl l_b)), (l3, .inl (G.2.1, 9, .inl l_c)), (m0, .inr (2, [.ref m1, .ref m2, .ref m3, .ref m4, .ref m5, .int m_n])), (m1, .inl (G.2.1, 36, .inl m_x)), (m2, .inl (G.2.1, 36, .inl m_y)), (m3, .inl (G.2.1, 36, .inl m_d)), (m4, .inl (G.2.1, 36, .inl m_t)), (m5, .inl (G.2.1, 36, .inl m_v)), (g0, .inr (0, [.long g_e]))]) (w2 := (w_C G c0 l0 l1 l2 l3 m0 m1 m2 m3 m4 m5 r0 r1 r2 r3 g0 g_e l_a l_b l_c l_n m_x m_y m_d m_t m_v m_n r_s r_n r_w r_k)) (va_runV (As := [.int x1]) (rest := [.ref m0]) ⟨hx, hb, hml, hown, hts⟩ (kX3_set (l := l) (G := G) r0 r1 r2 r3 r_s r_n r_w r_k x1 N u_690 hc_691 _) (cwV 1 hts gX4_best_X3_set rfl rfl rfl (by decide +kernel) ⟨Nat.le_of_ble_eq_true rfl, Nat.le_of_ble_eq_true rfl⟩) (wPreV hP hD hK [11, 12, 13, 14] rfl rfl (ci := 3) (qb := 11) rfl rfl rfl) rfl rfl hl.1 rfl (lv_room (Nat.le_of_ble_eq_true rfl)) dX4_best_63 ⟨Nat.zero_le _, Nat.zero_le _⟩) hP hD hS hA [11, 12, 13, 14] [0, 1, 2, 3, 4, 5, 6, 7, 8, 9, 10, 15] [0, 1, 2, 3, 4, 5, 6, 7, 8, 9, 10, 12, 13, 14, 15, 11] rfl rfl rfl (by decide) rfl rfl (fun H locs hP hD hS => ?_)
      refine lv_iload_n hx hb dX4_best_66 rfl (lv_at hl 2 rfl) ?_
      refine lv_iload_n hx hb dX4_best_67 rfl (lv_at hl 3 rfl) ?_
      obtain ⟨u_692, hc_693, h⟩ := bd_inv h
      refine wafter_i (wr := [(c0, .inr (4, [.ref l0, .ref m0, .ref r0, .ref g0])), (l0, .inr (1, [.ref l1, .ref l2, .ref l3, .int l_n])), (l1, .inl (G.2.1, 9, .inl l_a)), (l2, .inl (G.2.1, 9, .inl l_b)), (l3, .inl (G.2.1, 9, .inl l_c)), (r0, .inr (3, [.ref r1, .ref r2, .ref r3, .int r_k])), (r1, .inl (G.2.1, 46, .inl r_s)), (r2, .inl (G.2.1, 512, .inl r_n)), (r3, .inl (G.2.1, 512, .inl r_w)), (g0, .inr (0, [.long g_e]))]) (w2 := (w_C G c0 l0 l1 l2 l3 m0 m1 m2 m3 m4 m5 r0 r1 r2 r3 g0 g_e l_a l_b l_c l_n m_x m_y m_d m_t m_v m_n r_s r_n r_w r_k)) (va_runV (As := [.int u_690, .int x2, .int x3]) (rest := []) ⟨hx, hb, hml, hown, hts⟩ (kX2_bestCorner (l := l) (G := G) m0 m1 m2 m3 m4 m5 m_x m_y m_d m_t m_v m_n u_690 x2 x3 N u_692 hc_693 _) (cwV 3 hts gX4_best_X2_bestCorner rfl rfl rfl (by decide +kernel) ⟨Nat.le_of_ble_eq_true rfl, Nat.le_of_ble_eq_true rfl⟩) (wPreV hP hD hK [5, 6, 7, 8, 9, 10] rfl rfl (ci := 2) (qb := 5) rfl rfl rfl) rfl rfl hl.1 rfl (lv_room (Nat.le_of_ble_eq_true rfl)) dX4_best_68 ⟨Nat.zero_le _, Nat.zero_le _⟩) hP hD hS hA [5, 6, 7, 8, 9, 10] [0, 1, 2, 3, 4, 11, 12, 13, 14, 15] [0, 1, 2, 3, 4, 10, 11, 12, 13, 14, 15, 5, 6, 7, 8, 9] rfl rfl rfl (by decide) rfl rfl (fun H locs hP hD hS => ?_)
      refine lv_goto (tgt := 75) hx hb dX4_best_71 (by decide) ?_
      obtain rfl := Sum.inr.inj (Option.some.inj h)
      exact wri hx hb hr hlocks hP hD hS (Nat.le_of_ble_eq_true rfl) (Nat.le_of_ble_eq_true rfl) rfl dX4_best_75
  rw [fX4_best.eq_1] at h
  refine lv_aload_n hx hb dX4_best_0 rfl (lv_at hl 0 rfl) ?_
  refine lv_iload_n hx hb dX4_best_1 rfl (lv_at hl 1 rfl) ?_
  obtain ⟨u_694, hc_695, h⟩ := bdx_n h
  refine wafter_v (wr := []) (w2 := (w_C G c0 l0 l1 l2 l3 m0 m1 m2 m3 m4 m5 r0 r1 r2 r3 g0 g_e l_a l_b l_c l_n m_x m_y m_d m_t m_v m_n r_s r_n r_w r_k)) (va_runV (As := [.int x1]) (rest := []) ⟨hx, hb, hml, hown, hts⟩ (nX4_checkRoom (l := l) (G := G) c0 l0 l1 l2 l3 m0 m1 m2 m3 m4 m5 r0 r1 r2 r3 g0 g_e l_a l_b l_c l_n m_x m_y m_d m_t m_v m_n r_s r_n r_w r_k x1 N u_694 hc_695 _) (cwV 1 hts gX4_best_X4_checkRoom rfl rfl rfl (by decide +kernel) ⟨Nat.le_of_ble_eq_true rfl, Nat.le_of_ble_eq_true rfl⟩) (wPreV hP hD hK [0, 1, 2, 3, 4, 5, 6, 7, 8, 9, 10, 11, 12, 13, 14, 15] rfl rfl (ci := 4) (qb := 0) rfl rfl rfl) rfl rfl hl.1 rfl (lv_room (Nat.le_of_ble_eq_true rfl)) dX4_best_2 ⟨Nat.zero_le _, Nat.zero_le _⟩) hP hD hS hA [0, 1, 2, 3, 4, 5, 6, 7, 8, 9, 10, 11, 12, 13, 14, 15] [] [0, 1, 2, 3, 4, 5, 6, 7, 8, 9, 10, 11, 12, 13, 14, 15] rfl rfl rfl (by decide) rfl rfl (fun H locs hP hD hS => ?_)
  refine lv_iload_n hx hb dX4_best_5 rfl (lv_at hl 2 rfl) ?_
  obtain ⟨u_696, hc_697, h⟩ := bd_inv h
  refine wafter_i (wr := (w_C G c0 l0 l1 l2 l3 m0 m1 m2 m3 m4 m5 r0 r1 r2 r3 g0 g_e l_a l_b l_c l_n m_x m_y m_d m_t m_v m_n r_s r_n r_w r_k)) (w2 := (w_C G c0 l0 l1 l2 l3 m0 m1 m2 m3 m4 m5 r0 r1 r2 r3 g0 g_e l_a l_b l_c l_n m_x m_y m_d m_t m_v m_n r_s r_n r_w r_k)) (va_runS (As := [.int x2]) (rest := []) ⟨hx, hb, hml, hown, hts⟩ (kX4_isTooFar (l := l) (G := G)   x2 N u_696 hc_697 _) (va_cwS 1 hts gX4_best_X4_isTooFar rfl rfl rfl (by decide +kernel) ⟨Nat.le_of_ble_eq_true rfl, Nat.le_of_ble_eq_true rfl⟩) (wPreS hP hD hK [] rfl rfl) rfl rfl hl.1 rfl (lv_room (Nat.le_of_ble_eq_true rfl)) dX4_best_6 ⟨Nat.zero_le _, Nat.zero_le _⟩) hP hD hS hA [] [0, 1, 2, 3, 4, 5, 6, 7, 8, 9, 10, 11, 12, 13, 14, 15] [0, 1, 2, 3, 4, 5, 6, 7, 8, 9, 10, 11, 12, 13, 14, 15] rfl rfl rfl (by decide) rfl rfl (fun H locs hP hD hS => ?_)
  refine lv_if_ne (tgt := 27) hx hb dX4_best_9 (by decide) (fun c_698 => ?_) (fun c_698 => ?_)
  · have h := iq c_698 h
    cases h
  · have h := ip c_698 h
    refine lv_iload_n hx hb dX4_best_12 rfl (lv_at hl 3 rfl) ?_
    obtain ⟨u_699, hc_700, h⟩ := bd_inv h
    refine wafter_i (wr := (w_C G c0 l0 l1 l2 l3 m0 m1 m2 m3 m4 m5 r0 r1 r2 r3 g0 g_e l_a l_b l_c l_n m_x m_y m_d m_t m_v m_n r_s r_n r_w r_k)) (w2 := (w_C G c0 l0 l1 l2 l3 m0 m1 m2 m3 m4 m5 r0 r1 r2 r3 g0 g_e l_a l_b l_c l_n m_x m_y m_d m_t m_v m_n r_s r_n r_w r_k)) (va_runS (As := [.int x3]) (rest := []) ⟨hx, hb, hml, hown, hts⟩ (kX4_isTooFar (l := l) (G := G)   x3 N u_699 hc_700 _) (va_cwS 1 hts gX4_best_X4_isTooFar rfl rfl rfl (by decide +kernel) ⟨Nat.le_of_ble_eq_true rfl, Nat.le_of_ble_eq_true rfl⟩) (wPreS hP hD hK [] rfl rfl) rfl rfl hl.1 rfl (lv_room (Nat.le_of_ble_eq_true rfl)) dX4_best_13 ⟨Nat.zero_le _, Nat.zero_le _⟩) hP hD hS hA [] [0, 1, 2, 3, 4, 5, 6, 7, 8, 9, 10, 11, 12, 13, 14, 15] [0, 1, 2, 3, 4, 5, 6, 7, 8, 9, 10, 11, 12, 13, 14, 15] rfl rfl rfl (by decide) rfl rfl (fun H locs hP hD hS => ?_)
    refine lv_if_ne (tgt := 27) hx hb dX4_best_16 (by decide) (fun c_701 => ?_) (fun c_701 => ?_)
    · have h := iq c_701 h
      cases h
    · have h := ip c_701 h
      refine lv_iload_n hx hb dX4_best_19 rfl (lv_at hl 2 rfl) ?_
      refine lv_if_ne (tgt := 37) hx hb dX4_best_20 (by decide) (fun c_702 => ?_) (fun c_702 => ?_)
      · have h := iq c_702 h
        exact w_37  _ _ _   _ _ _  hP hD hS (lv_sub hl [0, 1, 2, 3] rfl) h
      · have h := ip c_702 h
        refine lv_iload_n hx hb dX4_best_23 rfl (lv_at hl 3 rfl) ?_
        refine lv_if_ne (tgt := 37) hx hb dX4_best_24 (by decide) (fun c_703 => ?_) (fun c_703 => ?_)
        · have h := iq c_703 h
          exact w_37  _ _ _   _ _ _  hP hD hS (lv_sub hl [0, 1, 2, 3] rfl) h
        · have h := ip c_703 h
          cases h
def fX4_reflected (N : Nat) (l_a : Nat → Int32) (l_b : Nat → Int32) (l_c : Nat → Int32) (l_n : Int32) (x1 : Int32) (x2 : Int32) : Option (String ⊕ (Int32)) := bdx (fX4_checkLine N l_n x1) (fun u_704 => bdx (fX4_checkLine N l_n x2) (fun u_706 => bd (fX1_mirrored N l_a l_b l_c l_n x1 x2) (fun u_708 => some (.inr u_708))))
set_option maxHeartbeats 4000000 in
set_option maxRecDepth 100000 in
theorem nX4_reflected {l : Launch} {G : wG} (c0 l0 l1 l2 l3 m0 m1 m2 m3 m4 m5 r0 r1 r2 r3 g0 : Nat) (g_e : Int64) (l_a : Nat → Int32) (l_b : Nat → Int32) (l_c : Nat → Int32) (l_n : Int32) (m_x : Nat → Int32) (m_y : Nat → Int32) (m_d : Nat → Int32) (m_t : Nat → Int32) (m_v : Nat → Int32) (m_n : Int32) (r_s : Nat → Int32) (r_n : Nat → Int32) (r_w : Nat → Int32) (r_k : Int32) (x1 : Int32) (x2 : Int32) (N : Nat) (v : Int32) (h : fX4_reflected N l_a l_b l_c l_n x1 x2 = some (.inr v)) : wCi l G yX4_reflected wsX4_reflected ({ frames := 7, cells := 0, slots := 0, locals := 121 } : Room) [.ref c0, .int x1, .int x2] (w_C G c0 l0 l1 l2 l3 m0 m1 m2 m3 m4 m5 r0 r1 r2 r3 g0 g_e l_a l_b l_c l_n m_x m_y m_d m_t m_v m_n r_s r_n r_w r_k) (w_C G c0 l0 l1 l2 l3 m0 m1 m2 m3 m4 m5 r0 r1 r2 r3 g0 g_e l_a l_b l_c l_n m_x m_y m_d m_t m_v m_n r_s r_n r_w r_k) 0 0 v := by
  refine wCi.mk (cc := cX4_reflected) (maxL := 3) (ty := .int) (by decide) rfl (Nat.le_of_ble_eq_true rfl) ?_
  intro p e s m below meth c A ls hx hb hml hr hlocks hts hown hK hA hP hD hl
  have hx : p.tables.exec = Jvm.exec := hx
  have hown : s.vm.findClass RX4 = some m.cls := hown
  have hinX4 : ∀ w ∈ wsX40, w ∈ wsX4_reflected := by decide +kernel
  have lk10 := hts (.fieldLink RX4 10 "Chamberwright" "lines" "LChamberwright$Lines;") (by decide +kernel)
  have hS : va_S A s.heap s.heap [] := va_S.rf
  have hP : va_P G.1 vwCl (w_C G c0 l0 l1 l2 l3 m0 m1 m2 m3 m4 m5 r0 r1 r2 r3 g0 g_e l_a l_b l_c l_n m_x m_y m_d m_t m_v m_n r_s r_n r_w r_k) s.heap := hP
  have hD : va_D A (w_C G c0 l0 l1 l2 l3 m0 m1 m2 m3 m4 m5 r0 r1 r2 r3 g0 g_e l_a l_b l_c l_n m_x m_y m_d m_t m_v m_n r_s r_n r_w r_k) := hD
  have hl : lv_has ls 3 [(0, .ref c0), (1, .int x1), (2, .int x2)] := hl
  obtain ⟨args, hargs⟩ : ∃ z : Array Value, z = ([.ref c0, .int x1, .int x2] : List Value).toArray := ⟨_, rfl⟩
  rw [← hargs]
  rw [← hargs] at hts
  rw [fX4_reflected.eq_1] at h
  refine lv_aload_n hx hb dX4_reflected_0 rfl (lv_at hl 0 rfl) ?_
  refine lv_iload_n hx hb dX4_reflected_1 rfl (lv_at hl 1 rfl) ?_
  obtain ⟨u_704, hc_705, h⟩ := bdx_n h
  refine wafter_v (wr := []) (w2 := (w_C G c0 l0 l1 l2 l3 m0 m1 m2 m3 m4 m5 r0 r1 r2 r3 g0 g_e l_a l_b l_c l_n m_x m_y m_d m_t m_v m_n r_s r_n r_w r_k)) (va_runV (As := [.int x1]) (rest := []) ⟨hx, hb, hml, hown, hts⟩ (nX4_checkLine (l := l) (G := G) c0 l0 l1 l2 l3 m0 m1 m2 m3 m4 m5 r0 r1 r2 r3 g0 g_e l_a l_b l_c l_n m_x m_y m_d m_t m_v m_n r_s r_n r_w r_k x1 N u_704 hc_705 _) (cwV 1 hts gX4_reflected_X4_checkLine rfl rfl rfl (by decide +kernel) ⟨Nat.le_of_ble_eq_true rfl, Nat.le_of_ble_eq_true rfl⟩) (wPreV hP hD hK [0, 1, 2, 3, 4, 5, 6, 7, 8, 9, 10, 11, 12, 13, 14, 15] rfl rfl (ci := 4) (qb := 0) rfl rfl rfl) rfl rfl hl.1 rfl (lv_room (Nat.le_of_ble_eq_true rfl)) dX4_reflected_2 ⟨Nat.zero_le _, Nat.zero_le _⟩) hP hD hS hA [0, 1, 2, 3, 4, 5, 6, 7, 8, 9, 10, 11, 12, 13, 14, 15] [] [0, 1, 2, 3, 4, 5, 6, 7, 8, 9, 10, 11, 12, 13, 14, 15] rfl rfl rfl (by decide) rfl rfl (fun H locs hP hD hS => ?_)
  refine lv_aload_n hx hb dX4_reflected_5 rfl (lv_at hl 0 rfl) ?_
  refine lv_iload_n hx hb dX4_reflected_6 rfl (lv_at hl 2 rfl) ?_
  obtain ⟨u_706, hc_707, h⟩ := bdx_n h
  refine wafter_v (wr := []) (w2 := (w_C G c0 l0 l1 l2 l3 m0 m1 m2 m3 m4 m5 r0 r1 r2 r3 g0 g_e l_a l_b l_c l_n m_x m_y m_d m_t m_v m_n r_s r_n r_w r_k)) (va_runV (As := [.int x2]) (rest := []) ⟨hx, hb, hml, hown, hts⟩ (nX4_checkLine (l := l) (G := G) c0 l0 l1 l2 l3 m0 m1 m2 m3 m4 m5 r0 r1 r2 r3 g0 g_e l_a l_b l_c l_n m_x m_y m_d m_t m_v m_n r_s r_n r_w r_k x2 N u_706 hc_707 _) (cwV 1 hts gX4_reflected_X4_checkLine rfl rfl rfl (by decide +kernel) ⟨Nat.le_of_ble_eq_true rfl, Nat.le_of_ble_eq_true rfl⟩) (wPreV hP hD hK [0, 1, 2, 3, 4, 5, 6, 7, 8, 9, 10, 11, 12, 13, 14, 15] rfl rfl (ci := 4) (qb := 0) rfl rfl rfl) rfl rfl hl.1 rfl (lv_room (Nat.le_of_ble_eq_true rfl)) dX4_reflected_7 ⟨Nat.zero_le _, Nat.zero_le _⟩) hP hD hS hA [0, 1, 2, 3, 4, 5, 6, 7, 8, 9, 10, 11, 12, 13, 14, 15] [] [0, 1, 2, 3, 4, 5, 6, 7, 8, 9, 10, 11, 12, 13, 14, 15] rfl rfl rfl (by decide) rfl rfl (fun H locs hP hD hS => ?_)
  refine lv_aload_n hx hb dX4_reflected_10 rfl (lv_at hl 0 rfl) ?_
  refine va_get (D := G.1) (ci := 4) (v := .ref l0) (C := RX4) (T := TX4) (N := 4) hx hb hts hinX4 hown hK.1 hP 0 rfl rfl 0 (by decide) lk10 (fun _ h9 => h9) rfl dX4_reflected_11 ?_
  refine lv_iload_n hx hb dX4_reflected_14 rfl (lv_at hl 1 rfl) ?_
  refine lv_iload_n hx hb dX4_reflected_15 rfl (lv_at hl 2 rfl) ?_
  obtain ⟨u_708, hc_709, h⟩ := bd_inv h
  refine wafter_i (wr := [(c0, .inr (4, [.ref l0, .ref m0, .ref r0, .ref g0])), (m0, .inr (2, [.ref m1, .ref m2, .ref m3, .ref m4, .ref m5, .int m_n])), (m1, .inl (G.2.1, 36, .inl m_x)), (m2, .inl (G.2.1, 36, .inl m_y)), (m3, .inl (G.2.1, 36, .inl m_d)), (m4, .inl (G.2.1, 36, .inl m_t)), (m5, .inl (G.2.1, 36, .inl m_v)), (r0, .inr (3, [.ref r1, .ref r2, .ref r3, .int r_k])), (r1, .inl (G.2.1, 46, .inl r_s)), (r2, .inl (G.2.1, 512, .inl r_n)), (r3, .inl (G.2.1, 512, .inl r_w)), (g0, .inr (0, [.long g_e]))]) (w2 := (w_C G c0 l0 l1 l2 l3 m0 m1 m2 m3 m4 m5 r0 r1 r2 r3 g0 g_e l_a l_b l_c l_n m_x m_y m_d m_t m_v m_n r_s r_n r_w r_k)) (va_runV (As := [.int x1, .int x2]) (rest := []) ⟨hx, hb, hml, hown, hts⟩ (kX1_mirrored (l := l) (G := G) l0 l1 l2 l3 l_a l_b l_c l_n x1 x2 N u_708 hc_709 _) (cwV 2 hts gX4_reflected_X1_mirrored rfl rfl rfl (by decide +kernel) ⟨Nat.le_of_ble_eq_true rfl, Nat.le_of_ble_eq_true rfl⟩) (wPreV hP hD hK [1, 2, 3, 4] rfl rfl (ci := 1) (qb := 1) rfl rfl rfl) rfl rfl hl.1 rfl (lv_room (Nat.le_of_ble_eq_true rfl)) dX4_reflected_16 ⟨Nat.zero_le _, Nat.zero_le _⟩) hP hD hS hA [1, 2, 3, 4] [0, 5, 6, 7, 8, 9, 10, 11, 12, 13, 14, 15] [0, 12, 13, 14, 15, 1, 2, 3, 4, 5, 6, 7, 8, 9, 10, 11] rfl rfl rfl (by decide) rfl rfl (fun H locs hP hD hS => ?_)
  obtain rfl := Sum.inr.inj (Option.some.inj h)
  exact wri hx hb hr hlocks hP hD hS (Nat.le_of_ble_eq_true rfl) (Nat.le_of_ble_eq_true rfl) rfl dX4_reflected_19
def fX4_isKaleidoscope_b15 (N : Nat) (l_a : Nat → Int32) (l_b : Nat → Int32) (l_c : Nat → Int32) (l_n : Int32) (x1 : Int32) (k_47 : Option (Int32)) : Nat → Int32 → Option (Int32)
  | 0, _ => none
  | n + 1, x2 => bd (fX1_count N l_n) (fun u_710 => if u_710 ≤ x2 then k_47 else bd (fX1_mirrored N l_a l_b l_c l_n x1 x2) (fun u_713 => if u_713 = (-1) then zo 0 (some 0) else fX4_isKaleidoscope_b15 N l_a l_b l_c l_n x1 k_47 n (x2 + 1)))
def fX4_isKaleidoscope_b2 (N : Nat) (l_a : Nat → Int32) (l_b : Nat → Int32) (l_c : Nat → Int32) (l_n : Int32) : Nat → Int32 → Option (Int32)
  | 0, _ => none
  | n + 1, x1 => bd (fX1_count N l_n) (fun u_716 => if u_716 ≤ x1 then zo 1 (some 1) else fX4_isKaleidoscope_b15 N l_a l_b l_c l_n x1 (fX4_isKaleidoscope_b2 N l_a l_b l_c l_n n (x1 + 1)) N 0)
def fX4_isKaleidoscope (N : Nat) (l_a : Nat → Int32) (l_b : Nat → Int32) (l_c : Nat → Int32) (l_n : Int32) : Option (Int32) := fX4_isKaleidoscope_b2 N l_a l_b l_c l_n N 0
set_option maxHeartbeats 4000000 in
set_option maxRecDepth 100000 in
theorem kX4_isKaleidoscope {l : Launch} {G : wG} (c0 l0 l1 l2 l3 m0 m1 m2 m3 m4 m5 r0 r1 r2 r3 g0 : Nat) (g_e : Int64) (l_a : Nat → Int32) (l_b : Nat → Int32) (l_c : Nat → Int32) (l_n : Int32) (m_x : Nat → Int32) (m_y : Nat → Int32) (m_d : Nat → Int32) (m_t : Nat → Int32) (m_v : Nat → Int32) (m_n : Int32) (r_s : Nat → Int32) (r_n : Nat → Int32) (r_w : Nat → Int32) (r_k : Int32) (N : Nat) (v : Int32) (h : fX4_isKaleidoscope N l_a l_b l_c l_n = some v) : wCi l G yX4_isKaleidoscope wsX4_isKaleidoscope ({ frames := 2, cells := 0, slots := 0, locals := 48 } : Room) [.ref c0] (w_C G c0 l0 l1 l2 l3 m0 m1 m2 m3 m4 m5 r0 r1 r2 r3 g0 g_e l_a l_b l_c l_n m_x m_y m_d m_t m_v m_n r_s r_n r_w r_k) (w_C G c0 l0 l1 l2 l3 m0 m1 m2 m3 m4 m5 r0 r1 r2 r3 g0 g_e l_a l_b l_c l_n m_x m_y m_d m_t m_v m_n r_s r_n r_w r_k) 0 0 v := by
  refine wCi.mk (cc := cX4_isKaleidoscope) (maxL := 3) (ty := .boolean) (by decide) rfl (Nat.le_of_ble_eq_true rfl) ?_
  intro p e s m below meth c A ls hx hb hml hr hlocks hts hown hK hA hP hD hl
  have hx : p.tables.exec = Jvm.exec := hx
  have hown : s.vm.findClass RX4 = some m.cls := hown
  have hinX4 : ∀ w ∈ wsX40, w ∈ wsX4_isKaleidoscope := by decide +kernel
  have lk10 := hts (.fieldLink RX4 10 "Chamberwright" "lines" "LChamberwright$Lines;") (by decide +kernel)
  have hS : va_S A s.heap s.heap [] := va_S.rf
  have hP : va_P G.1 vwCl (w_C G c0 l0 l1 l2 l3 m0 m1 m2 m3 m4 m5 r0 r1 r2 r3 g0 g_e l_a l_b l_c l_n m_x m_y m_d m_t m_v m_n r_s r_n r_w r_k) s.heap := hP
  have hD : va_D A (w_C G c0 l0 l1 l2 l3 m0 m1 m2 m3 m4 m5 r0 r1 r2 r3 g0 g_e l_a l_b l_c l_n m_x m_y m_d m_t m_v m_n r_s r_n r_w r_k) := hD
  have hl : lv_has ls 3 [(0, .ref c0)] := hl
  obtain ⟨args, hargs⟩ : ∃ z : Array Value, z = ([.ref c0] : List Value).toArray := ⟨_, rfl⟩
  rw [← hargs]
  rw [← hargs] at hts
  have w_15 : ∀ (k_47 : Option (Int32)) (x1 : Int32)  (_z : Unit), (∀  (H : Heap) (locs : List Loc) (ls : Array Slot), va_P G.1 vwCl (w_C G c0 l0 l1 l2 l3 m0 m1 m2 m3 m4 m5 r0 r1 r2 r3 g0 g_e l_a l_b l_c l_n m_x m_y m_d m_t m_v m_n r_s r_n r_w r_k) H → va_D A (w_C G c0 l0 l1 l2 l3 m0 m1 m2 m3 m4 m5 r0 r1 r2 r3 g0 g_e l_a l_b l_c l_n m_x m_y m_d m_t m_v m_n r_s r_n r_w r_k) → va_S A s.heap H locs → lv_has ls 3 [(0, .ref c0), (1, .int x1)] → k_47 = some v → W p l e ({ frames := 2, cells := 0, slots := 0, locals := 48 } : Room) s m args below meth c H locs 0 0 (wQi G A below args s (w_C G c0 l0 l1 l2 l3 m0 m1 m2 m3 m4 m5 r0 r1 r2 r3 g0 g_e l_a l_b l_c l_n m_x m_y m_d m_t m_v m_n r_s r_n r_w r_k) 0 0 v) (F0 m 47 ls [])) → ∀ (n : Nat) (x2 : Int32)  (H : Heap) (locs : List Loc) (ls : Array Slot), va_P G.1 vwCl (w_C G c0 l0 l1 l2 l3 m0 m1 m2 m3 m4 m5 r0 r1 r2 r3 g0 g_e l_a l_b l_c l_n m_x m_y m_d m_t m_v m_n r_s r_n r_w r_k) H → va_D A (w_C G c0 l0 l1 l2 l3 m0 m1 m2 m3 m4 m5 r0 r1 r2 r3 g0 g_e l_a l_b l_c l_n m_x m_y m_d m_t m_v m_n r_s r_n r_w r_k) → va_S A s.heap H locs → lv_has ls 3 [(0, .ref c0), (1, .int x1), (2, .int x2)] → fX4_isKaleidoscope_b15 N l_a l_b l_c l_n x1 k_47 n x2 = some v → W p l e ({ frames := 2, cells := 0, slots := 0, locals := 48 } : Room) s m args below meth c H locs 0 0 (wQi G A below args s (w_C G c0 l0 l1 l2 l3 m0 m1 m2 m3 m4 m5 r0 r1 r2 r3 g0 g_e l_a l_b l_c l_n m_x m_y m_d m_t m_v m_n r_s r_n r_w r_k) 0 0 v) (F0 m 15 ls []) := by
    intro k_47 x1 _z hk_47 n
    induction n with
    | zero =>
      intro x2 H locs ls hP hD hS hl h
      rw [fX4_isKaleidoscope_b15.eq_1] at h
      cases h
    | succ n ih =>
      intro x2 H locs ls hP hD hS hl h
      rw [fX4_isKaleidoscope_b15.eq_2] at h
      refine lv_iload_n hx hb dX4_isKaleidoscope_15 rfl (lv_at hl 2 rfl) ?_
      refine lv_aload_n hx hb dX4_isKaleidoscope_16 rfl (lv_at hl 0 rfl) ?_
      refine va_get (D := G.1) (ci := 4) (v := .ref l0) (C := RX4) (T := TX4) (N := 4) hx hb hts hinX4 hown hK.1 hP 0 rfl rfl 0 (by decide) lk10 (fun _ h9 => h9) rfl dX4_isKaleidoscope_17 ?_
      obtain ⟨u_710, hc_711, h⟩ := bd_inv h
      refine wafter_i (wr := [(c0, .inr (4, [.ref l0, .ref m0, .ref r0, .ref g0])), (m0, .inr (2, [.ref m1, .ref m2, .ref m3, .ref m4, .ref m5, .int m_n])), (m1, .inl (G.2.1, 36, .inl m_x)), (m2, .inl (G.2.1, 36, .inl m_y)), (m3, .inl (G.2.1, 36, .inl m_d)), (m4, .inl (G.2.1, 36, .inl m_t)), (m5, .inl (G.2.1, 36, .inl m_v)), (r0, .inr (3, [.ref r1, .ref r2, .ref r3, .int r_k])), (r1, .inl (G.2.1, 46, .inl r_s)), (r2, .inl (G.2.1, 512, .inl r_n)), (r3, .inl (G.2.1, 512, .inl r_w)), (g0, .inr (0, [.long g_e]))]) (w2 := (w_C G c0 l0 l1 l2 l3 m0 m1 m2 m3 m4 m5 r0 r1 r2 r3 g0 g_e l_a l_b l_c l_n m_x m_y m_d m_t m_v m_n r_s r_n r_w r_k)) (va_runV (As := []) (rest := [.int x2]) ⟨hx, hb, hml, hown, hts⟩ (kX1_count (l := l) (G := G) l0 l1 l2 l3 l_a l_b l_c l_n  N u_710 hc_711 _) (cwV 0 hts gX4_isKaleidoscope_X1_count rfl rfl rfl (by decide +kernel) ⟨Nat.le_of_ble_eq_true rfl, Nat.le_of_ble_eq_true rfl⟩) (wPreV hP hD hK [1, 2, 3, 4] rfl rfl (ci := 1) (qb := 1) rfl rfl rfl) rfl rfl hl.1 rfl (lv_room (Nat.le_of_ble_eq_true rfl)) dX4_isKaleidoscope_20 ⟨Nat.zero_le _, Nat.zero_le _⟩) hP hD hS hA [1, 2, 3, 4] [0, 5, 6, 7, 8, 9, 10, 11, 12, 13, 14, 15] [0, 12, 13, 14, 15, 1, 2, 3, 4, 5, 6, 7, 8, 9, 10, 11] rfl rfl rfl (by decide) rfl rfl (fun H locs hP hD hS => ?_)
      refine lv_icmp_ge (tgt := 47) hx hb dX4_isKaleidoscope_23 (by decide) (fun c_712 => ?_) (fun c_712 => ?_)
      · have h := ip c_712 h
        exact hk_47  _ _ _ hP hD hS (lv_sub hl [0, 1] rfl) h
      · have h := iq c_712 h
        refine lv_aload_n hx hb dX4_isKaleidoscope_26 rfl (lv_at hl 0 rfl) ?_
        refine va_get (D := G.1) (ci := 4) (v := .ref l0) (C := RX4) (T := TX4) (N := 4) hx hb hts hinX4 hown hK.1 hP 0 rfl rfl 0 (by decide) lk10 (fun _ h9 => h9) rfl dX4_isKaleidoscope_27 ?_
        refine lv_iload_n hx hb dX4_isKaleidoscope_30 rfl (lv_at hl 1 rfl) ?_
        refine lv_iload_n hx hb dX4_isKaleidoscope_31 rfl (lv_at hl 2 rfl) ?_
        obtain ⟨u_713, hc_714, h⟩ := bd_inv h
        refine wafter_i (wr := [(c0, .inr (4, [.ref l0, .ref m0, .ref r0, .ref g0])), (m0, .inr (2, [.ref m1, .ref m2, .ref m3, .ref m4, .ref m5, .int m_n])), (m1, .inl (G.2.1, 36, .inl m_x)), (m2, .inl (G.2.1, 36, .inl m_y)), (m3, .inl (G.2.1, 36, .inl m_d)), (m4, .inl (G.2.1, 36, .inl m_t)), (m5, .inl (G.2.1, 36, .inl m_v)), (r0, .inr (3, [.ref r1, .ref r2, .ref r3, .int r_k])), (r1, .inl (G.2.1, 46, .inl r_s)), (r2, .inl (G.2.1, 512, .inl r_n)), (r3, .inl (G.2.1, 512, .inl r_w)), (g0, .inr (0, [.long g_e]))]) (w2 := (w_C G c0 l0 l1 l2 l3 m0 m1 m2 m3 m4 m5 r0 r1 r2 r3 g0 g_e l_a l_b l_c l_n m_x m_y m_d m_t m_v m_n r_s r_n r_w r_k)) (va_runV (As := [.int x1, .int x2]) (rest := []) ⟨hx, hb, hml, hown, hts⟩ (kX1_mirrored (l := l) (G := G) l0 l1 l2 l3 l_a l_b l_c l_n x1 x2 N u_713 hc_714 _) (cwV 2 hts gX4_isKaleidoscope_X1_mirrored rfl rfl rfl (by decide +kernel) ⟨Nat.le_of_ble_eq_true rfl, Nat.le_of_ble_eq_true rfl⟩) (wPreV hP hD hK [1, 2, 3, 4] rfl rfl (ci := 1) (qb := 1) rfl rfl rfl) rfl rfl hl.1 rfl (lv_room (Nat.le_of_ble_eq_true rfl)) dX4_isKaleidoscope_32 ⟨Nat.zero_le _, Nat.zero_le _⟩) hP hD hS hA [1, 2, 3, 4] [0, 5, 6, 7, 8, 9, 10, 11, 12, 13, 14, 15] [0, 12, 13, 14, 15, 1, 2, 3, 4, 5, 6, 7, 8, 9, 10, 11] rfl rfl rfl (by decide) rfl rfl (fun H locs hP hD hS => ?_)
        refine lv_iconst (v := (-1)) hx hb dX4_isKaleidoscope_35 (by decide) ?_
        refine lv_icmp_ne (tgt := 41) hx hb dX4_isKaleidoscope_36 (by decide) (fun c_715 => ?_) (fun c_715 => ?_)
        · have h := iq c_715 h
          refine lv_iinc (v := (x2 + 1)) (lv' := [(2, .int (x2 + 1)), (0, .ref c0), (1, .int x1)]) hx hb dX4_isKaleidoscope_41 hl (k := 2) rfl rfl (by decide) rfl (fun ls hl => ?_)
          refine lv_goto (tgt := 15) hx hb dX4_isKaleidoscope_44 (by decide) ?_
          exact ih _ _ _ _ hP hD hS (lv_sub hl [1, 2, 0] rfl) h
        · have h := ip c_715 h
          refine lv_iconst (v := 0) hx hb dX4_isKaleidoscope_39 (by decide) ?_
          obtain ⟨hz, h⟩ := zo_inv h
          obtain rfl := Option.some.inj h
          exact wrz hx hb hr hlocks hP hD hS (Nat.le_of_ble_eq_true rfl) (Nat.le_of_ble_eq_true rfl) hz rfl dX4_isKaleidoscope_40
  have w_2 : ∀   (_z : Unit), ∀ (n : Nat) (x1 : Int32)  (H : Heap) (locs : List Loc) (ls : Array Slot), va_P G.1 vwCl (w_C G c0 l0 l1 l2 l3 m0 m1 m2 m3 m4 m5 r0 r1 r2 r3 g0 g_e l_a l_b l_c l_n m_x m_y m_d m_t m_v m_n r_s r_n r_w r_k) H → va_D A (w_C G c0 l0 l1 l2 l3 m0 m1 m2 m3 m4 m5 r0 r1 r2 r3 g0 g_e l_a l_b l_c l_n m_x m_y m_d m_t m_v m_n r_s r_n r_w r_k) → va_S A s.heap H locs → lv_has ls 3 [(0, .ref c0), (1, .int x1)] → fX4_isKaleidoscope_b2 N l_a l_b l_c l_n n x1 = some v → W p l e ({ frames := 2, cells := 0, slots := 0, locals := 48 } : Room) s m args below meth c H locs 0 0 (wQi G A below args s (w_C G c0 l0 l1 l2 l3 m0 m1 m2 m3 m4 m5 r0 r1 r2 r3 g0 g_e l_a l_b l_c l_n m_x m_y m_d m_t m_v m_n r_s r_n r_w r_k) 0 0 v) (F0 m 2 ls []) := by
    intro _z n
    induction n with
    | zero =>
      intro x1 H locs ls hP hD hS hl h
      rw [fX4_isKaleidoscope_b2.eq_1] at h
      cases h
    | succ n ih =>
      intro x1 H locs ls hP hD hS hl h
      rw [fX4_isKaleidoscope_b2.eq_2] at h
      refine lv_iload_n hx hb dX4_isKaleidoscope_2 rfl (lv_at hl 1 rfl) ?_
      refine lv_aload_n hx hb dX4_isKaleidoscope_3 rfl (lv_at hl 0 rfl) ?_
      refine va_get (D := G.1) (ci := 4) (v := .ref l0) (C := RX4) (T := TX4) (N := 4) hx hb hts hinX4 hown hK.1 hP 0 rfl rfl 0 (by decide) lk10 (fun _ h9 => h9) rfl dX4_isKaleidoscope_4 ?_
      obtain ⟨u_716, hc_717, h⟩ := bd_inv h
      refine wafter_i (wr := [(c0, .inr (4, [.ref l0, .ref m0, .ref r0, .ref g0])), (m0, .inr (2, [.ref m1, .ref m2, .ref m3, .ref m4, .ref m5, .int m_n])), (m1, .inl (G.2.1, 36, .inl m_x)), (m2, .inl (G.2.1, 36, .inl m_y)), (m3, .inl (G.2.1, 36, .inl m_d)), (m4, .inl (G.2.1, 36, .inl m_t)), (m5, .inl (G.2.1, 36, .inl m_v)), (r0, .inr (3, [.ref r1, .ref r2, .ref r3, .int r_k])), (r1, .inl (G.2.1, 46, .inl r_s)), (r2, .inl (G.2.1, 512, .inl r_n)), (r3, .inl (G.2.1, 512, .inl r_w)), (g0, .inr (0, [.long g_e]))]) (w2 := (w_C G c0 l0 l1 l2 l3 m0 m1 m2 m3 m4 m5 r0 r1 r2 r3 g0 g_e l_a l_b l_c l_n m_x m_y m_d m_t m_v m_n r_s r_n r_w r_k)) (va_runV (As := []) (rest := [.int x1]) ⟨hx, hb, hml, hown, hts⟩ (kX1_count (l := l) (G := G) l0 l1 l2 l3 l_a l_b l_c l_n  N u_716 hc_717 _) (cwV 0 hts gX4_isKaleidoscope_X1_count rfl rfl rfl (by decide +kernel) ⟨Nat.le_of_ble_eq_true rfl, Nat.le_of_ble_eq_true rfl⟩) (wPreV hP hD hK [1, 2, 3, 4] rfl rfl (ci := 1) (qb := 1) rfl rfl rfl) rfl rfl hl.1 rfl (lv_room (Nat.le_of_ble_eq_true rfl)) dX4_isKaleidoscope_7 ⟨Nat.zero_le _, Nat.zero_le _⟩) hP hD hS hA [1, 2, 3, 4] [0, 5, 6, 7, 8, 9, 10, 11, 12, 13, 14, 15] [0, 12, 13, 14, 15, 1, 2, 3, 4, 5, 6, 7, 8, 9, 10, 11] rfl rfl rfl (by decide) rfl rfl (fun H locs hP hD hS => ?_)
      refine lv_icmp_ge (tgt := 53) hx hb dX4_isKaleidoscope_10 (by decide) (fun c_718 => ?_) (fun c_718 => ?_)
      · have h := ip c_718 h
        refine lv_iconst (v := 1) hx hb dX4_isKaleidoscope_53 (by decide) ?_
        obtain ⟨hz, h⟩ := zo_inv h
        obtain rfl := Option.some.inj h
        exact wrz hx hb hr hlocks hP hD hS (Nat.le_of_ble_eq_true rfl) (Nat.le_of_ble_eq_true rfl) hz rfl dX4_isKaleidoscope_54
      · have h := iq c_718 h
        refine lv_iconst (v := 0) hx hb dX4_isKaleidoscope_13 (by decide) ?_
        refine lv_istore_n (lv' := [(2, .int 0), (0, .ref c0), (1, .int x1)]) hx hb dX4_isKaleidoscope_14 rfl hl (by decide) rfl (fun ls hl => ?_)
        refine w_15 _ _  () (fun  H locs ls hP hD hS hl h => ?_) N _  _ _ _ hP hD hS (lv_sub hl [1, 2, 0] rfl) h
        refine lv_iinc (v := (x1 + 1)) (lv' := [(1, .int (x1 + 1)), (0, .ref c0)]) hx hb dX4_isKaleidoscope_47 hl (k := 1) rfl rfl (by decide) rfl (fun ls hl => ?_)
        refine lv_goto (tgt := 2) hx hb dX4_isKaleidoscope_50 (by decide) ?_
        exact ih _ _ _ _ hP hD hS (lv_sub hl [1, 0] rfl) h
  rw [fX4_isKaleidoscope.eq_1] at h
  refine lv_iconst (v := 0) hx hb dX4_isKaleidoscope_0 (by decide) ?_
  refine lv_istore_n (lv' := [(1, .int 0), (0, .ref c0)]) hx hb dX4_isKaleidoscope_1 rfl hl (by decide) rfl (fun ls hl => ?_)
  exact w_2    ()  N _  _ _ _ hP hD hS (lv_sub hl [1, 0] rfl) h
def fX4_pairs_b19 (N : Nat) (l_n : Int32) (m_t : Nat → Int32) (m_n : Int32) (x2 : Int32) (k_51 : Int32 → Option (Int32)) : Nat → Int32 → Int32 → Option (Int32)
  | 0, _, _ => none
  | n + 1, x1, x3 => bd (fX1_count N l_n) (fun u_719 => if u_719 ≤ x3 then k_51 x1 else bd (fX2_isLowestPair N m_t m_n x2 x3) (fun u_722 => if u_722 = 0 then fX4_pairs_b19 N l_n m_t m_n x2 k_51 n x1 (x3 + 1) else fX4_pairs_b19 N l_n m_t m_n x2 k_51 n (x1 + 1) (x3 + 1)))
def fX4_pairs_b4 (N : Nat) (l_n : Int32) (m_t : Nat → Int32) (m_n : Int32) : Nat → Int32 → Int32 → Option (Int32)
  | 0, _, _ => none
  | n + 1, x1, x2 => bd (fX1_count N l_n) (fun u_725 => if u_725 ≤ x2 then some x1 else fX4_pairs_b19 N l_n m_t m_n x2 (fun (x1_728 : Int32) => fX4_pairs_b4 N l_n m_t m_n n x1_728 (x2 + 1)) N x1 (x2 + 1))
def fX4_pairs (N : Nat) (l_n : Int32) (m_t : Nat → Int32) (m_n : Int32) : Option (Int32) := fX4_pairs_b4 N l_n m_t m_n N 0 0
set_option maxHeartbeats 4000000 in
set_option maxRecDepth 100000 in
theorem kX4_pairs {l : Launch} {G : wG} (c0 l0 l1 l2 l3 m0 m1 m2 m3 m4 m5 r0 r1 r2 r3 g0 : Nat) (g_e : Int64) (l_a : Nat → Int32) (l_b : Nat → Int32) (l_c : Nat → Int32) (l_n : Int32) (m_x : Nat → Int32) (m_y : Nat → Int32) (m_d : Nat → Int32) (m_t : Nat → Int32) (m_v : Nat → Int32) (m_n : Int32) (r_s : Nat → Int32) (r_n : Nat → Int32) (r_w : Nat → Int32) (r_k : Int32) (N : Nat) (v : Int32) (h : fX4_pairs N l_n m_t m_n = some v) : wCi l G yX4_pairs wsX4_pairs ({ frames := 4, cells := 0, slots := 0, locals := 86 } : Room) [.ref c0] (w_C G c0 l0 l1 l2 l3 m0 m1 m2 m3 m4 m5 r0 r1 r2 r3 g0 g_e l_a l_b l_c l_n m_x m_y m_d m_t m_v m_n r_s r_n r_w r_k) (w_C G c0 l0 l1 l2 l3 m0 m1 m2 m3 m4 m5 r0 r1 r2 r3 g0 g_e l_a l_b l_c l_n m_x m_y m_d m_t m_v m_n r_s r_n r_w r_k) 0 0 v := by
  refine wCi.mk (cc := cX4_pairs) (maxL := 4) (ty := .int) (by decide) rfl (Nat.le_of_ble_eq_true rfl) ?_
  intro p e s m below meth c A ls hx hb hml hr hlocks hts hown hK hA hP hD hl
  have hx : p.tables.exec = Jvm.exec := hx
  have hown : s.vm.findClass RX4 = some m.cls := hown
  have hinX4 : ∀ w ∈ wsX40, w ∈ wsX4_pairs := by decide +kernel
  have lk10 := hts (.fieldLink RX4 10 "Chamberwright" "lines" "LChamberwright$Lines;") (by decide +kernel)
  have lk19 := hts (.fieldLink RX4 19 "Chamberwright" "meets" "LChamberwright$Meets;") (by decide +kernel)
  have hS : va_S A s.heap s.heap [] := va_S.rf
  have hP : va_P G.1 vwCl (w_C G c0 l0 l1 l2 l3 m0 m1 m2 m3 m4 m5 r0 r1 r2 r3 g0 g_e l_a l_b l_c l_n m_x m_y m_d m_t m_v m_n r_s r_n r_w r_k) s.heap := hP
  have hD : va_D A (w_C G c0 l0 l1 l2 l3 m0 m1 m2 m3 m4 m5 r0 r1 r2 r3 g0 g_e l_a l_b l_c l_n m_x m_y m_d m_t m_v m_n r_s r_n r_w r_k) := hD
  have hl : lv_has ls 4 [(0, .ref c0)] := hl
  obtain ⟨args, hargs⟩ : ∃ z : Array Value, z = ([.ref c0] : List Value).toArray := ⟨_, rfl⟩
  rw [← hargs]
  rw [← hargs] at hts
  have w_19 : ∀ (k_51 : Int32 → Option (Int32)) (x2 : Int32)  (_z : Unit), (∀ (y1 : Int32) (H : Heap) (locs : List Loc) (ls : Array Slot), va_P G.1 vwCl (w_C G c0 l0 l1 l2 l3 m0 m1 m2 m3 m4 m5 r0 r1 r2 r3 g0 g_e l_a l_b l_c l_n m_x m_y m_d m_t m_v m_n r_s r_n r_w r_k) H → va_D A (w_C G c0 l0 l1 l2 l3 m0 m1 m2 m3 m4 m5 r0 r1 r2 r3 g0 g_e l_a l_b l_c l_n m_x m_y m_d m_t m_v m_n r_s r_n r_w r_k) → va_S A s.heap H locs → lv_has ls 4 [(0, .ref c0), (1, .int y1), (2, .int x2)] → k_51 y1 = some v → W p l e ({ frames := 4, cells := 0, slots := 0, locals := 86 } : Room) s m args below meth c H locs 0 0 (wQi G A below args s (w_C G c0 l0 l1 l2 l3 m0 m1 m2 m3 m4 m5 r0 r1 r2 r3 g0 g_e l_a l_b l_c l_n m_x m_y m_d m_t m_v m_n r_s r_n r_w r_k) 0 0 v) (F0 m 51 ls [])) → ∀ (n : Nat) (x1 : Int32) (x3 : Int32)  (H : Heap) (locs : List Loc) (ls : Array Slot), va_P G.1 vwCl (w_C G c0 l0 l1 l2 l3 m0 m1 m2 m3 m4 m5 r0 r1 r2 r3 g0 g_e l_a l_b l_c l_n m_x m_y m_d m_t m_v m_n r_s r_n r_w r_k) H → va_D A (w_C G c0 l0 l1 l2 l3 m0 m1 m2 m3 m4 m5 r0 r1 r2 r3 g0 g_e l_a l_b l_c l_n m_x m_y m_d m_t m_v m_n r_s r_n r_w r_k) → va_S A s.heap H locs → lv_has ls 4 [(0, .ref c0), (1, .int x1), (2, .int x2), (3, .int x3)] → fX4_pairs_b19 N l_n m_t m_n x2 k_51 n x1 x3 = some v → W p l e ({ frames := 4, cells := 0, slots := 0, locals := 86 } : Room) s m args below meth c H locs 0 0 (wQi G A below args s (w_C G c0 l0 l1 l2 l3 m0 m1 m2 m3 m4 m5 r0 r1 r2 r3 g0 g_e l_a l_b l_c l_n m_x m_y m_d m_t m_v m_n r_s r_n r_w r_k) 0 0 v) (F0 m 19 ls []) := by
    intro k_51 x2 _z hk_51 n
    induction n with
    | zero =>
      intro x1 x3 H locs ls hP hD hS hl h
      rw [fX4_pairs_b19.eq_1] at h
      cases h
    | succ n ih =>
      intro x1 x3 H locs ls hP hD hS hl h
      rw [fX4_pairs_b19.eq_2] at h
      refine lv_iload_n hx hb dX4_pairs_19 rfl (lv_at hl 3 rfl) ?_
      refine lv_aload_n hx hb dX4_pairs_20 rfl (lv_at hl 0 rfl) ?_
      refine va_get (D := G.1) (ci := 4) (v := .ref l0) (C := RX4) (T := TX4) (N := 4) hx hb hts hinX4 hown hK.1 hP 0 rfl rfl 0 (by decide) lk10 (fun _ h9 => h9) rfl dX4_pairs_21 ?_
      obtain ⟨u_719, hc_720, h⟩ := bd_inv h
      refine wafter_i (wr := [(c0, .inr (4, [.ref l0, .ref m0, .ref r0, .ref g0])), (m0, .inr (2, [.ref m1, .ref m2, .ref m3, .ref m4, .ref m5, .int m_n])), (m1, .inl (G.2.1, 36, .inl m_x)), (m2, .inl (G.2.1, 36, .inl m_y)), (m3, .inl (G.2.1, 36, .inl m_d)), (m4, .inl (G.2.1, 36, .inl m_t)), (m5, .inl (G.2.1, 36, .inl m_v)), (r0, .inr (3, [.ref r1, .ref r2, .ref r3, .int r_k])), (r1, .inl (G.2.1, 46, .inl r_s)), (r2, .inl (G.2.1, 512, .inl r_n)), (r3, .inl (G.2.1, 512, .inl r_w)), (g0, .inr (0, [.long g_e]))]) (w2 := (w_C G c0 l0 l1 l2 l3 m0 m1 m2 m3 m4 m5 r0 r1 r2 r3 g0 g_e l_a l_b l_c l_n m_x m_y m_d m_t m_v m_n r_s r_n r_w r_k)) (va_runV (As := []) (rest := [.int x3]) ⟨hx, hb, hml, hown, hts⟩ (kX1_count (l := l) (G := G) l0 l1 l2 l3 l_a l_b l_c l_n  N u_719 hc_720 _) (cwV 0 hts gX4_pairs_X1_count rfl rfl rfl (by decide +kernel) ⟨Nat.le_of_ble_eq_true rfl, Nat.le_of_ble_eq_true rfl⟩) (wPreV hP hD hK [1, 2, 3, 4] rfl rfl (ci := 1) (qb := 1) rfl rfl rfl) rfl rfl hl.1 rfl (lv_room (Nat.le_of_ble_eq_true rfl)) dX4_pairs_24 ⟨Nat.zero_le _, Nat.zero_le _⟩) hP hD hS hA [1, 2, 3, 4] [0, 5, 6, 7, 8, 9, 10, 11, 12, 13, 14, 15] [0, 12, 13, 14, 15, 1, 2, 3, 4, 5, 6, 7, 8, 9, 10, 11] rfl rfl rfl (by decide) rfl rfl (fun H locs hP hD hS => ?_)
      refine lv_icmp_ge (tgt := 51) hx hb dX4_pairs_27 (by decide) (fun c_721 => ?_) (fun c_721 => ?_)
      · have h := ip c_721 h
        exact hk_51 _ _ _ _ hP hD hS (lv_sub hl [0, 1, 2] rfl) h
      · have h := iq c_721 h
        refine lv_aload_n hx hb dX4_pairs_30 rfl (lv_at hl 0 rfl) ?_
        refine va_get (D := G.1) (ci := 4) (v := .ref m0) (C := RX4) (T := TX4) (N := 4) hx hb hts hinX4 hown hK.1 hP 0 rfl rfl 1 (by decide) lk19 (fun _ h9 => h9) rfl dX4_pairs_31 ?_
        refine lv_iload_n hx hb dX4_pairs_34 rfl (lv_at hl 2 rfl) ?_
        refine lv_iload_n hx hb dX4_pairs_35 rfl (lv_at hl 3 rfl) ?_
        obtain ⟨u_722, hc_723, h⟩ := bd_inv h
        refine wafter_i (wr := [(c0, .inr (4, [.ref l0, .ref m0, .ref r0, .ref g0])), (l0, .inr (1, [.ref l1, .ref l2, .ref l3, .int l_n])), (l1, .inl (G.2.1, 9, .inl l_a)), (l2, .inl (G.2.1, 9, .inl l_b)), (l3, .inl (G.2.1, 9, .inl l_c)), (r0, .inr (3, [.ref r1, .ref r2, .ref r3, .int r_k])), (r1, .inl (G.2.1, 46, .inl r_s)), (r2, .inl (G.2.1, 512, .inl r_n)), (r3, .inl (G.2.1, 512, .inl r_w)), (g0, .inr (0, [.long g_e]))]) (w2 := (w_C G c0 l0 l1 l2 l3 m0 m1 m2 m3 m4 m5 r0 r1 r2 r3 g0 g_e l_a l_b l_c l_n m_x m_y m_d m_t m_v m_n r_s r_n r_w r_k)) (va_runV (As := [.int x2, .int x3]) (rest := []) ⟨hx, hb, hml, hown, hts⟩ (kX2_isLowestPair (l := l) (G := G) m0 m1 m2 m3 m4 m5 m_x m_y m_d m_t m_v m_n x2 x3 N u_722 hc_723 _) (cwV 2 hts gX4_pairs_X2_isLowestPair rfl rfl rfl (by decide +kernel) ⟨Nat.le_of_ble_eq_true rfl, Nat.le_of_ble_eq_true rfl⟩) (wPreV hP hD hK [5, 6, 7, 8, 9, 10] rfl rfl (ci := 2) (qb := 5) rfl rfl rfl) rfl rfl hl.1 rfl (lv_room (Nat.le_of_ble_eq_true rfl)) dX4_pairs_36 ⟨Nat.zero_le _, Nat.zero_le _⟩) hP hD hS hA [5, 6, 7, 8, 9, 10] [0, 1, 2, 3, 4, 11, 12, 13, 14, 15] [0, 1, 2, 3, 4, 10, 11, 12, 13, 14, 15, 5, 6, 7, 8, 9] rfl rfl rfl (by decide) rfl rfl (fun H locs hP hD hS => ?_)
        refine lv_if_eq (tgt := 45) hx hb dX4_pairs_39 (by decide) (fun c_724 => ?_) (fun c_724 => ?_)
        · have h := ip c_724 h
          refine lv_iinc (v := (x3 + 1)) (lv' := [(3, .int (x3 + 1)), (0, .ref c0), (1, .int x1), (2, .int x2)]) hx hb dX4_pairs_45 hl (k := 3) rfl rfl (by decide) rfl (fun ls hl => ?_)
          refine lv_goto (tgt := 19) hx hb dX4_pairs_48 (by decide) ?_
          exact ih _ _ _ _ _ hP hD hS (lv_sub hl [1, 2, 3, 0] rfl) h
        · have h := iq c_724 h
          refine lv_iinc (v := (x1 + 1)) (lv' := [(1, .int (x1 + 1)), (0, .ref c0), (2, .int x2), (3, .int x3)]) hx hb dX4_pairs_42 hl (k := 1) rfl rfl (by decide) rfl (fun ls hl => ?_)
          refine lv_iinc (v := (x3 + 1)) (lv' := [(3, .int (x3 + 1)), (1, .int (x1 + 1)), (0, .ref c0), (2, .int x2)]) hx hb dX4_pairs_45 hl (k := 3) rfl rfl (by decide) rfl (fun ls hl => ?_)
          refine lv_goto (tgt := 19) hx hb dX4_pairs_48 (by decide) ?_
          exact ih _ _ _ _ _ hP hD hS (lv_sub hl [2, 1, 3, 0] rfl) h
  have w_4 : ∀   (_z : Unit), ∀ (n : Nat) (x1 : Int32) (x2 : Int32)  (H : Heap) (locs : List Loc) (ls : Array Slot), va_P G.1 vwCl (w_C G c0 l0 l1 l2 l3 m0 m1 m2 m3 m4 m5 r0 r1 r2 r3 g0 g_e l_a l_b l_c l_n m_x m_y m_d m_t m_v m_n r_s r_n r_w r_k) H → va_D A (w_C G c0 l0 l1 l2 l3 m0 m1 m2 m3 m4 m5 r0 r1 r2 r3 g0 g_e l_a l_b l_c l_n m_x m_y m_d m_t m_v m_n r_s r_n r_w r_k) → va_S A s.heap H locs → lv_has ls 4 [(0, .ref c0), (1, .int x1), (2, .int x2)] → fX4_pairs_b4 N l_n m_t m_n n x1 x2 = some v → W p l e ({ frames := 4, cells := 0, slots := 0, locals := 86 } : Room) s m args below meth c H locs 0 0 (wQi G A below args s (w_C G c0 l0 l1 l2 l3 m0 m1 m2 m3 m4 m5 r0 r1 r2 r3 g0 g_e l_a l_b l_c l_n m_x m_y m_d m_t m_v m_n r_s r_n r_w r_k) 0 0 v) (F0 m 4 ls []) := by
    intro _z n
    induction n with
    | zero =>
      intro x1 x2 H locs ls hP hD hS hl h
      rw [fX4_pairs_b4.eq_1] at h
      cases h
    | succ n ih =>
      intro x1 x2 H locs ls hP hD hS hl h
      rw [fX4_pairs_b4.eq_2] at h
      refine lv_iload_n hx hb dX4_pairs_4 rfl (lv_at hl 2 rfl) ?_
      refine lv_aload_n hx hb dX4_pairs_5 rfl (lv_at hl 0 rfl) ?_
      refine va_get (D := G.1) (ci := 4) (v := .ref l0) (C := RX4) (T := TX4) (N := 4) hx hb hts hinX4 hown hK.1 hP 0 rfl rfl 0 (by decide) lk10 (fun _ h9 => h9) rfl dX4_pairs_6 ?_
      obtain ⟨u_725, hc_726, h⟩ := bd_inv h
      refine wafter_i (wr := [(c0, .inr (4, [.ref l0, .ref m0, .ref r0, .ref g0])), (m0, .inr (2, [.ref m1, .ref m2, .ref m3, .ref m4, .ref m5, .int m_n])), (m1, .inl (G.2.1, 36, .inl m_x)), (m2, .inl (G.2.1, 36, .inl m_y)), (m3, .inl (G.2.1, 36, .inl m_d)), (m4, .inl (G.2.1, 36, .inl m_t)), (m5, .inl (G.2.1, 36, .inl m_v)), (r0, .inr (3, [.ref r1, .ref r2, .ref r3, .int r_k])), (r1, .inl (G.2.1, 46, .inl r_s)), (r2, .inl (G.2.1, 512, .inl r_n)), (r3, .inl (G.2.1, 512, .inl r_w)), (g0, .inr (0, [.long g_e]))]) (w2 := (w_C G c0 l0 l1 l2 l3 m0 m1 m2 m3 m4 m5 r0 r1 r2 r3 g0 g_e l_a l_b l_c l_n m_x m_y m_d m_t m_v m_n r_s r_n r_w r_k)) (va_runV (As := []) (rest := [.int x2]) ⟨hx, hb, hml, hown, hts⟩ (kX1_count (l := l) (G := G) l0 l1 l2 l3 l_a l_b l_c l_n  N u_725 hc_726 _) (cwV 0 hts gX4_pairs_X1_count rfl rfl rfl (by decide +kernel) ⟨Nat.le_of_ble_eq_true rfl, Nat.le_of_ble_eq_true rfl⟩) (wPreV hP hD hK [1, 2, 3, 4] rfl rfl (ci := 1) (qb := 1) rfl rfl rfl) rfl rfl hl.1 rfl (lv_room (Nat.le_of_ble_eq_true rfl)) dX4_pairs_9 ⟨Nat.zero_le _, Nat.zero_le _⟩) hP hD hS hA [1, 2, 3, 4] [0, 5, 6, 7, 8, 9, 10, 11, 12, 13, 14, 15] [0, 12, 13, 14, 15, 1, 2, 3, 4, 5, 6, 7, 8, 9, 10, 11] rfl rfl rfl (by decide) rfl rfl (fun H locs hP hD hS => ?_)
      refine lv_icmp_ge (tgt := 57) hx hb dX4_pairs_12 (by decide) (fun c_727 => ?_) (fun c_727 => ?_)
      · have h := ip c_727 h
        refine lv_iload_n hx hb dX4_pairs_57 rfl (lv_at hl 1 rfl) ?_
        obtain rfl := Option.some.inj h
        exact wri hx hb hr hlocks hP hD hS (Nat.le_of_ble_eq_true rfl) (Nat.le_of_ble_eq_true rfl) rfl dX4_pairs_58
      · have h := iq c_727 h
        refine lv_iload_n hx hb dX4_pairs_15 rfl (lv_at hl 2 rfl) ?_
        refine lv_iconst (v := 1) hx hb dX4_pairs_16 (by decide) ?_
        refine lv_iadd hx hb dX4_pairs_17 ?_
        refine lv_istore_n (lv' := [(3, .int (x2 + 1)), (0, .ref c0), (1, .int x1), (2, .int x2)]) hx hb dX4_pairs_18 rfl hl (by decide) rfl (fun ls hl => ?_)
        refine w_19 _ _  () (fun x1_728 H locs ls hP hD hS hl h => ?_) N _ _  _ _ _ hP hD hS (lv_sub hl [1, 2, 3, 0] rfl) h
        refine lv_iinc (v := (x2 + 1)) (lv' := [(2, .int (x2 + 1)), (0, .ref c0), (1, .int x1_728)]) hx hb dX4_pairs_51 hl (k := 2) rfl rfl (by decide) rfl (fun ls hl => ?_)
        refine lv_goto (tgt := 4) hx hb dX4_pairs_54 (by decide) ?_
        exact ih _ _ _ _ _ hP hD hS (lv_sub hl [1, 2, 0] rfl) h
  rw [fX4_pairs.eq_1] at h
  refine lv_iconst (v := 0) hx hb dX4_pairs_0 (by decide) ?_
  refine lv_istore_n (lv' := [(1, .int 0), (0, .ref c0)]) hx hb dX4_pairs_1 rfl hl (by decide) rfl (fun ls hl => ?_)
  refine lv_iconst (v := 0) hx hb dX4_pairs_2 (by decide) ?_
  refine lv_istore_n (lv' := [(2, .int 0), (1, .int 0), (0, .ref c0)]) hx hb dX4_pairs_3 rfl hl (by decide) rfl (fun ls hl => ?_)
  exact w_4    ()  N _ _  _ _ _ hP hD hS (lv_sub hl [2, 1, 0] rfl) h
def fX4_pair_b24 (N : Nat) (l_n : Int32) (m_t : Nat → Int32) (m_n : Int32) (x1 : Int32) (x3 : Int32) (k_57 : Int32 → Option (String ⊕ (Int32))) (k_77 : Int32 → Option (String ⊕ (Int32))) : Nat → Int32 → Int32 → Option (String ⊕ (Int32))
  | 0, _, _ => none
  | n + 1, x2, x4 => bd (fX1_count N l_n) (fun u_729 => if u_729 ≤ x4 then k_77 x2 else bd (fX2_isLowestPair N m_t m_n x3 x4) (fun u_732 => if u_732 = 0 then fX4_pair_b24 N l_n m_t m_n x1 x3 k_57 k_77 n x2 (x4 + 1) else if x2 = x1 then k_57 x4 else fX4_pair_b24 N l_n m_t m_n x1 x3 k_57 k_77 n (x2 + 1) (x4 + 1)))
def fX4_pair_b8 (N : Nat) (l_n : Int32) (m_t : Nat → Int32) (m_n : Int32) (x1 : Int32) (k_57 : Int32 → Int32 → Option (String ⊕ (Int32))) : Nat → Int32 → Int32 → Option (String ⊕ (Int32))
  | 0, _, _ => none
  | n + 1, x2, x3 => bd (fX1_count N l_n) (fun u_736 => if u_736 ≤ x3 then some (.inr ((-1))) else fX4_pair_b24 N l_n m_t m_n x1 x3 (fun (x4_739 : Int32) => k_57 x3 x4_739) (fun (x2_740 : Int32) => fX4_pair_b8 N l_n m_t m_n x1 k_57 n x2_740 (x3 + 1)) N x2 (x3 + 1))
def fX4_pair (N : Nat) (l_n : Int32) (m_t : Nat → Int32) (m_n : Int32) (x1 : Int32) : Option (String ⊕ (Int32)) := bdx (fX4_checkPlace N x1) (fun u_741 => fX4_pair_b8 N l_n m_t m_n x1 (fun (x3_743 : Int32) (x4_744 : Int32) => bd (fX4_bit N x3_743) (fun u_745 => bd (fX4_bit N x4_744) (fun u_747 => some (.inr ((u_745 ||| u_747)))))) N 0 0)
set_option maxHeartbeats 4000000 in
set_option maxRecDepth 100000 in
theorem nX4_pair {l : Launch} {G : wG} (c0 l0 l1 l2 l3 m0 m1 m2 m3 m4 m5 r0 r1 r2 r3 g0 : Nat) (g_e : Int64) (l_a : Nat → Int32) (l_b : Nat → Int32) (l_c : Nat → Int32) (l_n : Int32) (m_x : Nat → Int32) (m_y : Nat → Int32) (m_d : Nat → Int32) (m_t : Nat → Int32) (m_v : Nat → Int32) (m_n : Int32) (r_s : Nat → Int32) (r_n : Nat → Int32) (r_w : Nat → Int32) (r_k : Int32) (x1 : Int32) (N : Nat) (v : Int32) (h : fX4_pair N l_n m_t m_n x1 = some (.inr v)) : wCi l G yX4_pair wsX4_pair ({ frames := 7, cells := 0, slots := 0, locals := 120 } : Room) [.ref c0, .int x1] (w_C G c0 l0 l1 l2 l3 m0 m1 m2 m3 m4 m5 r0 r1 r2 r3 g0 g_e l_a l_b l_c l_n m_x m_y m_d m_t m_v m_n r_s r_n r_w r_k) (w_C G c0 l0 l1 l2 l3 m0 m1 m2 m3 m4 m5 r0 r1 r2 r3 g0 g_e l_a l_b l_c l_n m_x m_y m_d m_t m_v m_n r_s r_n r_w r_k) 0 0 v := by
  refine wCi.mk (cc := cX4_pair) (maxL := 5) (ty := .int) (by decide) rfl (Nat.le_of_ble_eq_true rfl) ?_
  intro p e s m below meth c A ls hx hb hml hr hlocks hts hown hK hA hP hD hl
  have hx : p.tables.exec = Jvm.exec := hx
  have hown : s.vm.findClass RX4 = some m.cls := hown
  have hinX4 : ∀ w ∈ wsX40, w ∈ wsX4_pair := by decide +kernel
  have lk10 := hts (.fieldLink RX4 10 "Chamberwright" "lines" "LChamberwright$Lines;") (by decide +kernel)
  have lk19 := hts (.fieldLink RX4 19 "Chamberwright" "meets" "LChamberwright$Meets;") (by decide +kernel)
  have hS : va_S A s.heap s.heap [] := va_S.rf
  have hP : va_P G.1 vwCl (w_C G c0 l0 l1 l2 l3 m0 m1 m2 m3 m4 m5 r0 r1 r2 r3 g0 g_e l_a l_b l_c l_n m_x m_y m_d m_t m_v m_n r_s r_n r_w r_k) s.heap := hP
  have hD : va_D A (w_C G c0 l0 l1 l2 l3 m0 m1 m2 m3 m4 m5 r0 r1 r2 r3 g0 g_e l_a l_b l_c l_n m_x m_y m_d m_t m_v m_n r_s r_n r_w r_k) := hD
  have hl : lv_has ls 5 [(0, .ref c0), (1, .int x1)] := hl
  obtain ⟨args, hargs⟩ : ∃ z : Array Value, z = ([.ref c0, .int x1] : List Value).toArray := ⟨_, rfl⟩
  rw [← hargs]
  rw [← hargs] at hts
  have w_24 : ∀ (k_57 : Int32 → Option (String ⊕ (Int32))) (k_77 : Int32 → Option (String ⊕ (Int32))) (x1 : Int32) (x3 : Int32)  (_z : Unit), (∀ (y4 : Int32) (H : Heap) (locs : List Loc) (ls : Array Slot), va_P G.1 vwCl (w_C G c0 l0 l1 l2 l3 m0 m1 m2 m3 m4 m5 r0 r1 r2 r3 g0 g_e l_a l_b l_c l_n m_x m_y m_d m_t m_v m_n r_s r_n r_w r_k) H → va_D A (w_C G c0 l0 l1 l2 l3 m0 m1 m2 m3 m4 m5 r0 r1 r2 r3 g0 g_e l_a l_b l_c l_n m_x m_y m_d m_t m_v m_n r_s r_n r_w r_k) → va_S A s.heap H locs → lv_has ls 5 [(3, .int x3), (4, .int y4)] → k_57 y4 = some (.inr v) → W p l e ({ frames := 7, cells := 0, slots := 0, locals := 120 } : Room) s m args below meth c H locs 0 0 (wQi G A below args s (w_C G c0 l0 l1 l2 l3 m0 m1 m2 m3 m4 m5 r0 r1 r2 r3 g0 g_e l_a l_b l_c l_n m_x m_y m_d m_t m_v m_n r_s r_n r_w r_k) 0 0 v) (F0 m 57 ls [])) → (∀ (y2 : Int32) (H : Heap) (locs : List Loc) (ls : Array Slot), va_P G.1 vwCl (w_C G c0 l0 l1 l2 l3 m0 m1 m2 m3 m4 m5 r0 r1 r2 r3 g0 g_e l_a l_b l_c l_n m_x m_y m_d m_t m_v m_n r_s r_n r_w r_k) H → va_D A (w_C G c0 l0 l1 l2 l3 m0 m1 m2 m3 m4 m5 r0 r1 r2 r3 g0 g_e l_a l_b l_c l_n m_x m_y m_d m_t m_v m_n r_s r_n r_w r_k) → va_S A s.heap H locs → lv_has ls 5 [(0, .ref c0), (1, .int x1), (2, .int y2), (3, .int x3)] → k_77 y2 = some (.inr v) → W p l e ({ frames := 7, cells := 0, slots := 0, locals := 120 } : Room) s m args below meth c H locs 0 0 (wQi G A below args s (w_C G c0 l0 l1 l2 l3 m0 m1 m2 m3 m4 m5 r0 r1 r2 r3 g0 g_e l_a l_b l_c l_n m_x m_y m_d m_t m_v m_n r_s r_n r_w r_k) 0 0 v) (F0 m 77 ls [])) → ∀ (n : Nat) (x2 : Int32) (x4 : Int32)  (H : Heap) (locs : List Loc) (ls : Array Slot), va_P G.1 vwCl (w_C G c0 l0 l1 l2 l3 m0 m1 m2 m3 m4 m5 r0 r1 r2 r3 g0 g_e l_a l_b l_c l_n m_x m_y m_d m_t m_v m_n r_s r_n r_w r_k) H → va_D A (w_C G c0 l0 l1 l2 l3 m0 m1 m2 m3 m4 m5 r0 r1 r2 r3 g0 g_e l_a l_b l_c l_n m_x m_y m_d m_t m_v m_n r_s r_n r_w r_k) → va_S A s.heap H locs → lv_has ls 5 [(0, .ref c0), (1, .int x1), (2, .int x2), (3, .int x3), (4, .int x4)] → fX4_pair_b24 N l_n m_t m_n x1 x3 k_57 k_77 n x2 x4 = some (.inr v) → W p l e ({ frames := 7, cells := 0, slots := 0, locals := 120 } : Room) s m args below meth c H locs 0 0 (wQi G A below args s (w_C G c0 l0 l1 l2 l3 m0 m1 m2 m3 m4 m5 r0 r1 r2 r3 g0 g_e l_a l_b l_c l_n m_x m_y m_d m_t m_v m_n r_s r_n r_w r_k) 0 0 v) (F0 m 24 ls []) := by
    intro k_57 k_77 x1 x3 _z hk_57 hk_77 n
    induction n with
    | zero =>
      intro x2 x4 H locs ls hP hD hS hl h
      rw [fX4_pair_b24.eq_1] at h
      cases h
    | succ n ih =>
      intro x2 x4 H locs ls hP hD hS hl h
      rw [fX4_pair_b24.eq_2] at h
      refine lv_iload hx hb dX4_pair_24 (lv_at hl 4 rfl) ?_
      refine lv_aload_n hx hb dX4_pair_26 rfl (lv_at hl 0 rfl) ?_
      refine va_get (D := G.1) (ci := 4) (v := .ref l0) (C := RX4) (T := TX4) (N := 4) hx hb hts hinX4 hown hK.1 hP 0 rfl rfl 0 (by decide) lk10 (fun _ h9 => h9) rfl dX4_pair_27 ?_
      obtain ⟨u_729, hc_730, h⟩ := bd_inv h
      refine wafter_i (wr := [(c0, .inr (4, [.ref l0, .ref m0, .ref r0, .ref g0])), (m0, .inr (2, [.ref m1, .ref m2, .ref m3, .ref m4, .ref m5, .int m_n])), (m1, .inl (G.2.1, 36, .inl m_x)), (m2, .inl (G.2.1, 36, .inl m_y)), (m3, .inl (G.2.1, 36, .inl m_d)), (m4, .inl (G.2.1, 36, .inl m_t)), (m5, .inl (G.2.1, 36, .inl m_v)), (r0, .inr (3, [.ref r1, .ref r2, .ref r3, .int r_k])), (r1, .inl (G.2.1, 46, .inl r_s)), (r2, .inl (G.2.1, 512, .inl r_n)), (r3, .inl (G.2.1, 512, .inl r_w)), (g0, .inr (0, [.long g_e]))]) (w2 := (w_C G c0 l0 l1 l2 l3 m0 m1 m2 m3 m4 m5 r0 r1 r2 r3 g0 g_e l_a l_b l_c l_n m_x m_y m_d m_t m_v m_n r_s r_n r_w r_k)) (va_runV (As := []) (rest := [.int x4]) ⟨hx, hb, hml, hown, hts⟩ (kX1_count (l := l) (G := G) l0 l1 l2 l3 l_a l_b l_c l_n  N u_729 hc_730 _) (cwV 0 hts gX4_pair_X1_count rfl rfl rfl (by decide +kernel) ⟨Nat.le_of_ble_eq_true rfl, Nat.le_of_ble_eq_true rfl⟩) (wPreV hP hD hK [1, 2, 3, 4] rfl rfl (ci := 1) (qb := 1) rfl rfl rfl) rfl rfl hl.1 rfl (lv_room (Nat.le_of_ble_eq_true rfl)) dX4_pair_30 ⟨Nat.zero_le _, Nat.zero_le _⟩) hP hD hS hA [1, 2, 3, 4] [0, 5, 6, 7, 8, 9, 10, 11, 12, 13, 14, 15] [0, 12, 13, 14, 15, 1, 2, 3, 4, 5, 6, 7, 8, 9, 10, 11] rfl rfl rfl (by decide) rfl rfl (fun H locs hP hD hS => ?_)
      refine lv_icmp_ge (tgt := 77) hx hb dX4_pair_33 (by decide) (fun c_731 => ?_) (fun c_731 => ?_)
      · have h := ip c_731 h
        exact hk_77 _ _ _ _ hP hD hS (lv_sub hl [0, 1, 2, 3] rfl) h
      · have h := iq c_731 h
        refine lv_aload_n hx hb dX4_pair_36 rfl (lv_at hl 0 rfl) ?_
        refine va_get (D := G.1) (ci := 4) (v := .ref m0) (C := RX4) (T := TX4) (N := 4) hx hb hts hinX4 hown hK.1 hP 0 rfl rfl 1 (by decide) lk19 (fun _ h9 => h9) rfl dX4_pair_37 ?_
        refine lv_iload_n hx hb dX4_pair_40 rfl (lv_at hl 3 rfl) ?_
        refine lv_iload hx hb dX4_pair_41 (lv_at hl 4 rfl) ?_
        obtain ⟨u_732, hc_733, h⟩ := bd_inv h
        refine wafter_i (wr := [(c0, .inr (4, [.ref l0, .ref m0, .ref r0, .ref g0])), (l0, .inr (1, [.ref l1, .ref l2, .ref l3, .int l_n])), (l1, .inl (G.2.1, 9, .inl l_a)), (l2, .inl (G.2.1, 9, .inl l_b)), (l3, .inl (G.2.1, 9, .inl l_c)), (r0, .inr (3, [.ref r1, .ref r2, .ref r3, .int r_k])), (r1, .inl (G.2.1, 46, .inl r_s)), (r2, .inl (G.2.1, 512, .inl r_n)), (r3, .inl (G.2.1, 512, .inl r_w)), (g0, .inr (0, [.long g_e]))]) (w2 := (w_C G c0 l0 l1 l2 l3 m0 m1 m2 m3 m4 m5 r0 r1 r2 r3 g0 g_e l_a l_b l_c l_n m_x m_y m_d m_t m_v m_n r_s r_n r_w r_k)) (va_runV (As := [.int x3, .int x4]) (rest := []) ⟨hx, hb, hml, hown, hts⟩ (kX2_isLowestPair (l := l) (G := G) m0 m1 m2 m3 m4 m5 m_x m_y m_d m_t m_v m_n x3 x4 N u_732 hc_733 _) (cwV 2 hts gX4_pair_X2_isLowestPair rfl rfl rfl (by decide +kernel) ⟨Nat.le_of_ble_eq_true rfl, Nat.le_of_ble_eq_true rfl⟩) (wPreV hP hD hK [5, 6, 7, 8, 9, 10] rfl rfl (ci := 2) (qb := 5) rfl rfl rfl) rfl rfl hl.1 rfl (lv_room (Nat.le_of_ble_eq_true rfl)) dX4_pair_43 ⟨Nat.zero_le _, Nat.zero_le _⟩) hP hD hS hA [5, 6, 7, 8, 9, 10] [0, 1, 2, 3, 4, 11, 12, 13, 14, 15] [0, 1, 2, 3, 4, 10, 11, 12, 13, 14, 15, 5, 6, 7, 8, 9] rfl rfl rfl (by decide) rfl rfl (fun H locs hP hD hS => ?_)
        refine lv_if_ne (tgt := 52) hx hb dX4_pair_46 (by decide) (fun c_734 => ?_) (fun c_734 => ?_)
        · have h := iq c_734 h
          refine lv_iload_n hx hb dX4_pair_52 rfl (lv_at hl 2 rfl) ?_
          refine lv_iload_n hx hb dX4_pair_53 rfl (lv_at hl 1 rfl) ?_
          refine lv_icmp_ne (tgt := 68) hx hb dX4_pair_54 (by decide) (fun c_735 => ?_) (fun c_735 => ?_)
          · have h := iq c_735 h
            refine lv_iinc (v := (x2 + 1)) (lv' := [(2, .int (x2 + 1)), (0, .ref c0), (1, .int x1), (3, .int x3), (4, .int x4)]) hx hb dX4_pair_68 hl (k := 2) rfl rfl (by decide) rfl (fun ls hl => ?_)
            refine lv_iinc (v := (x4 + 1)) (lv' := [(4, .int (x4 + 1)), (2, .int (x2 + 1)), (0, .ref c0), (1, .int x1), (3, .int x3)]) hx hb dX4_pair_71 hl (k := 4) rfl rfl (by decide) rfl (fun ls hl => ?_)
            refine lv_goto (tgt := 24) hx hb dX4_pair_74 (by decide) ?_
            exact ih _ _ _ _ _ hP hD hS (lv_sub hl [2, 3, 1, 4, 0] rfl) h
          · have h := ip c_735 h
            exact hk_57 _ _ _ _ hP hD hS (lv_sub hl [3, 4] rfl) h
        · have h := ip c_734 h
          refine lv_goto (tgt := 71) hx hb dX4_pair_49 (by decide) ?_
          refine lv_iinc (v := (x4 + 1)) (lv' := [(4, .int (x4 + 1)), (0, .ref c0), (1, .int x1), (2, .int x2), (3, .int x3)]) hx hb dX4_pair_71 hl (k := 4) rfl rfl (by decide) rfl (fun ls hl => ?_)
          refine lv_goto (tgt := 24) hx hb dX4_pair_74 (by decide) ?_
          exact ih _ _ _ _ _ hP hD hS (lv_sub hl [1, 2, 3, 4, 0] rfl) h
  have w_8 : ∀ (k_57 : Int32 → Int32 → Option (String ⊕ (Int32))) (x1 : Int32)  (_z : Unit), (∀ (y3 : Int32) (y4 : Int32) (H : Heap) (locs : List Loc) (ls : Array Slot), va_P G.1 vwCl (w_C G c0 l0 l1 l2 l3 m0 m1 m2 m3 m4 m5 r0 r1 r2 r3 g0 g_e l_a l_b l_c l_n m_x m_y m_d m_t m_v m_n r_s r_n r_w r_k) H → va_D A (w_C G c0 l0 l1 l2 l3 m0 m1 m2 m3 m4 m5 r0 r1 r2 r3 g0 g_e l_a l_b l_c l_n m_x m_y m_d m_t m_v m_n r_s r_n r_w r_k) → va_S A s.heap H locs → lv_has ls 5 [(3, .int y3), (4, .int y4)] → k_57 y3 y4 = some (.inr v) → W p l e ({ frames := 7, cells := 0, slots := 0, locals := 120 } : Room) s m args below meth c H locs 0 0 (wQi G A below args s (w_C G c0 l0 l1 l2 l3 m0 m1 m2 m3 m4 m5 r0 r1 r2 r3 g0 g_e l_a l_b l_c l_n m_x m_y m_d m_t m_v m_n r_s r_n r_w r_k) 0 0 v) (F0 m 57 ls [])) → ∀ (n : Nat) (x2 : Int32) (x3 : Int32)  (H : Heap) (locs : List Loc) (ls : Array Slot), va_P G.1 vwCl (w_C G c0 l0 l1 l2 l3 m0 m1 m2 m3 m4 m5 r0 r1 r2 r3 g0 g_e l_a l_b l_c l_n m_x m_y m_d m_t m_v m_n r_s r_n r_w r_k) H → va_D A (w_C G c0 l0 l1 l2 l3 m0 m1 m2 m3 m4 m5 r0 r1 r2 r3 g0 g_e l_a l_b l_c l_n m_x m_y m_d m_t m_v m_n r_s r_n r_w r_k) → va_S A s.heap H locs → lv_has ls 5 [(0, .ref c0), (1, .int x1), (2, .int x2), (3, .int x3)] → fX4_pair_b8 N l_n m_t m_n x1 k_57 n x2 x3 = some (.inr v) → W p l e ({ frames := 7, cells := 0, slots := 0, locals := 120 } : Room) s m args below meth c H locs 0 0 (wQi G A below args s (w_C G c0 l0 l1 l2 l3 m0 m1 m2 m3 m4 m5 r0 r1 r2 r3 g0 g_e l_a l_b l_c l_n m_x m_y m_d m_t m_v m_n r_s r_n r_w r_k) 0 0 v) (F0 m 8 ls []) := by
    intro k_57 x1 _z hk_57 n
    induction n with
    | zero =>
      intro x2 x3 H locs ls hP hD hS hl h
      rw [fX4_pair_b8.eq_1] at h
      cases h
    | succ n ih =>
      intro x2 x3 H locs ls hP hD hS hl h
      rw [fX4_pair_b8.eq_2] at h
      refine lv_iload_n hx hb dX4_pair_8 rfl (lv_at hl 3 rfl) ?_
      refine lv_aload_n hx hb dX4_pair_9 rfl (lv_at hl 0 rfl) ?_
      refine va_get (D := G.1) (ci := 4) (v := .ref l0) (C := RX4) (T := TX4) (N := 4) hx hb hts hinX4 hown hK.1 hP 0 rfl rfl 0 (by decide) lk10 (fun _ h9 => h9) rfl dX4_pair_10 ?_
      obtain ⟨u_736, hc_737, h⟩ := bd_inv h
      refine wafter_i (wr := [(c0, .inr (4, [.ref l0, .ref m0, .ref r0, .ref g0])), (m0, .inr (2, [.ref m1, .ref m2, .ref m3, .ref m4, .ref m5, .int m_n])), (m1, .inl (G.2.1, 36, .inl m_x)), (m2, .inl (G.2.1, 36, .inl m_y)), (m3, .inl (G.2.1, 36, .inl m_d)), (m4, .inl (G.2.1, 36, .inl m_t)), (m5, .inl (G.2.1, 36, .inl m_v)), (r0, .inr (3, [.ref r1, .ref r2, .ref r3, .int r_k])), (r1, .inl (G.2.1, 46, .inl r_s)), (r2, .inl (G.2.1, 512, .inl r_n)), (r3, .inl (G.2.1, 512, .inl r_w)), (g0, .inr (0, [.long g_e]))]) (w2 := (w_C G c0 l0 l1 l2 l3 m0 m1 m2 m3 m4 m5 r0 r1 r2 r3 g0 g_e l_a l_b l_c l_n m_x m_y m_d m_t m_v m_n r_s r_n r_w r_k)) (va_runV (As := []) (rest := [.int x3]) ⟨hx, hb, hml, hown, hts⟩ (kX1_count (l := l) (G := G) l0 l1 l2 l3 l_a l_b l_c l_n  N u_736 hc_737 _) (cwV 0 hts gX4_pair_X1_count rfl rfl rfl (by decide +kernel) ⟨Nat.le_of_ble_eq_true rfl, Nat.le_of_ble_eq_true rfl⟩) (wPreV hP hD hK [1, 2, 3, 4] rfl rfl (ci := 1) (qb := 1) rfl rfl rfl) rfl rfl hl.1 rfl (lv_room (Nat.le_of_ble_eq_true rfl)) dX4_pair_13 ⟨Nat.zero_le _, Nat.zero_le _⟩) hP hD hS hA [1, 2, 3, 4] [0, 5, 6, 7, 8, 9, 10, 11, 12, 13, 14, 15] [0, 12, 13, 14, 15, 1, 2, 3, 4, 5, 6, 7, 8, 9, 10, 11] rfl rfl rfl (by decide) rfl rfl (fun H locs hP hD hS => ?_)
      refine lv_icmp_ge (tgt := 83) hx hb dX4_pair_16 (by decide) (fun c_738 => ?_) (fun c_738 => ?_)
      · have h := ip c_738 h
        refine lv_iconst (v := (-1)) hx hb dX4_pair_83 (by decide) ?_
        obtain rfl := Sum.inr.inj (Option.some.inj h)
        exact wri hx hb hr hlocks hP hD hS (Nat.le_of_ble_eq_true rfl) (Nat.le_of_ble_eq_true rfl) rfl dX4_pair_84
      · have h := iq c_738 h
        refine lv_iload_n hx hb dX4_pair_19 rfl (lv_at hl 3 rfl) ?_
        refine lv_iconst (v := 1) hx hb dX4_pair_20 (by decide) ?_
        refine lv_iadd hx hb dX4_pair_21 ?_
        refine lv_istore (lv' := [(4, .int (x3 + 1)), (0, .ref c0), (1, .int x1), (2, .int x2), (3, .int x3)]) hx hb dX4_pair_22 hl (by decide) rfl (fun ls hl => ?_)
        refine w_24 _ _ _ _  () (fun x4_739 H locs ls hP hD hS hl h => ?_) (fun x2_740 H locs ls hP hD hS hl h => ?_) N _ _  _ _ _ hP hD hS (lv_sub hl [1, 2, 3, 4, 0] rfl) h
        · exact hk_57 _ _ _ _ _ hP hD hS (lv_sub hl [0, 1] rfl) h
        · refine lv_iinc (v := (x3 + 1)) (lv' := [(3, .int (x3 + 1)), (0, .ref c0), (1, .int x1), (2, .int x2_740)]) hx hb dX4_pair_77 hl (k := 3) rfl rfl (by decide) rfl (fun ls hl => ?_)
          refine lv_goto (tgt := 8) hx hb dX4_pair_80 (by decide) ?_
          exact ih _ _ _ _ _ hP hD hS (lv_sub hl [1, 2, 3, 0] rfl) h
  rw [fX4_pair.eq_1] at h
  refine lv_iload_n hx hb dX4_pair_0 rfl (lv_at hl 1 rfl) ?_
  obtain ⟨u_741, hc_742, h⟩ := bdx_n h
  refine wafter_v (wr := (w_C G c0 l0 l1 l2 l3 m0 m1 m2 m3 m4 m5 r0 r1 r2 r3 g0 g_e l_a l_b l_c l_n m_x m_y m_d m_t m_v m_n r_s r_n r_w r_k)) (w2 := (w_C G c0 l0 l1 l2 l3 m0 m1 m2 m3 m4 m5 r0 r1 r2 r3 g0 g_e l_a l_b l_c l_n m_x m_y m_d m_t m_v m_n r_s r_n r_w r_k)) (va_runS (As := [.int x1]) (rest := []) ⟨hx, hb, hml, hown, hts⟩ (nX4_checkPlace (l := l) (G := G)   x1 N u_741 hc_742 _) (va_cwS 1 hts gX4_pair_X4_checkPlace rfl rfl rfl (by decide +kernel) ⟨Nat.le_of_ble_eq_true rfl, Nat.le_of_ble_eq_true rfl⟩) (wPreS hP hD hK [] rfl rfl) rfl rfl hl.1 rfl (lv_room (Nat.le_of_ble_eq_true rfl)) dX4_pair_1 ⟨Nat.zero_le _, Nat.zero_le _⟩) hP hD hS hA [] [0, 1, 2, 3, 4, 5, 6, 7, 8, 9, 10, 11, 12, 13, 14, 15] [0, 1, 2, 3, 4, 5, 6, 7, 8, 9, 10, 11, 12, 13, 14, 15] rfl rfl rfl (by decide) rfl rfl (fun H locs hP hD hS => ?_)
  refine lv_iconst (v := 0) hx hb dX4_pair_4 (by decide) ?_
  refine lv_istore_n (lv' := [(2, .int 0), (0, .ref c0), (1, .int x1)]) hx hb dX4_pair_5 rfl hl (by decide) rfl (fun ls hl => ?_)
  refine lv_iconst (v := 0) hx hb dX4_pair_6 (by decide) ?_
  refine lv_istore_n (lv' := [(3, .int 0), (2, .int 0), (0, .ref c0), (1, .int x1)]) hx hb dX4_pair_7 rfl hl (by decide) rfl (fun ls hl => ?_)
  refine w_8 _ _  () (fun x3_743 x4_744 H locs ls hP hD hS hl h => ?_) N _ _  _ _ _ hP hD hS (lv_sub hl [2, 3, 1, 0] rfl) h
  refine lv_iload_n hx hb dX4_pair_57 rfl (lv_at hl 0 rfl) ?_
  obtain ⟨u_745, hc_746, h⟩ := bd_inv h
  refine wafter_i (wr := (w_C G c0 l0 l1 l2 l3 m0 m1 m2 m3 m4 m5 r0 r1 r2 r3 g0 g_e l_a l_b l_c l_n m_x m_y m_d m_t m_v m_n r_s r_n r_w r_k)) (w2 := (w_C G c0 l0 l1 l2 l3 m0 m1 m2 m3 m4 m5 r0 r1 r2 r3 g0 g_e l_a l_b l_c l_n m_x m_y m_d m_t m_v m_n r_s r_n r_w r_k)) (va_runS (As := [.int x3_743]) (rest := []) ⟨hx, hb, hml, hown, hts⟩ (kX4_bit (l := l) (G := G)   x3_743 N u_745 hc_746 _) (va_cwS 1 hts gX4_pair_X4_bit rfl rfl rfl (by decide +kernel) ⟨Nat.le_of_ble_eq_true rfl, Nat.le_of_ble_eq_true rfl⟩) (wPreS hP hD hK [] rfl rfl) rfl rfl hl.1 rfl (lv_room (Nat.le_of_ble_eq_true rfl)) dX4_pair_58 ⟨Nat.zero_le _, Nat.zero_le _⟩) hP hD hS hA [] [0, 1, 2, 3, 4, 5, 6, 7, 8, 9, 10, 11, 12, 13, 14, 15] [0, 1, 2, 3, 4, 5, 6, 7, 8, 9, 10, 11, 12, 13, 14, 15] rfl rfl rfl (by decide) rfl rfl (fun H locs hP hD hS => ?_)
  refine lv_iload hx hb dX4_pair_61 (lv_at hl 1 rfl) ?_
  obtain ⟨u_747, hc_748, h⟩ := bd_inv h
  refine wafter_i (wr := (w_C G c0 l0 l1 l2 l3 m0 m1 m2 m3 m4 m5 r0 r1 r2 r3 g0 g_e l_a l_b l_c l_n m_x m_y m_d m_t m_v m_n r_s r_n r_w r_k)) (w2 := (w_C G c0 l0 l1 l2 l3 m0 m1 m2 m3 m4 m5 r0 r1 r2 r3 g0 g_e l_a l_b l_c l_n m_x m_y m_d m_t m_v m_n r_s r_n r_w r_k)) (va_runS (As := [.int x4_744]) (rest := [.int u_745]) ⟨hx, hb, hml, hown, hts⟩ (kX4_bit (l := l) (G := G)   x4_744 N u_747 hc_748 _) (va_cwS 1 hts gX4_pair_X4_bit rfl rfl rfl (by decide +kernel) ⟨Nat.le_of_ble_eq_true rfl, Nat.le_of_ble_eq_true rfl⟩) (wPreS hP hD hK [] rfl rfl) rfl rfl hl.1 rfl (lv_room (Nat.le_of_ble_eq_true rfl)) dX4_pair_63 ⟨Nat.zero_le _, Nat.zero_le _⟩) hP hD hS hA [] [0, 1, 2, 3, 4, 5, 6, 7, 8, 9, 10, 11, 12, 13, 14, 15] [0, 1, 2, 3, 4, 5, 6, 7, 8, 9, 10, 11, 12, 13, 14, 15] rfl rfl rfl (by decide) rfl rfl (fun H locs hP hD hS => ?_)
  refine lv_ior hx hb dX4_pair_66 ?_
  obtain rfl := Sum.inr.inj (Option.some.inj h)
  exact wri hx hb hr hlocks hP hD hS (Nat.le_of_ble_eq_true rfl) (Nat.le_of_ble_eq_true rfl) rfl dX4_pair_67
def fX4_isDot (N : Nat) (x0 : Int32) : Option (Int32) := if x0 < 0 then zo 0 (some 0) else if 6 ≤ x0 then zo 0 (some 0) else zo 1 (some 1)
set_option maxHeartbeats 4000000 in
set_option maxRecDepth 100000 in
theorem kX4_isDot {l : Launch} {G : wG} (x0 : Int32) (N : Nat) (v : Int32) (h : fX4_isDot N x0 = some v) : wCi l G yX4_isDot wsX4_isDot ({ frames := 0, cells := 0, slots := 0, locals := 0 } : Room) [.int x0] [] [] 0 0 v := by
  refine wCi.mk (cc := cX4_isDot) (maxL := 1) (ty := .boolean) (by decide) rfl (Nat.le_of_ble_eq_true rfl) ?_
  intro p e s m below meth c A ls hx hb hml hr hlocks hts hown hK hA hP hD hl
  have hx : p.tables.exec = Jvm.exec := hx
  have hown : s.vm.findClass RX4 = some m.cls := hown
  have hS : va_S A s.heap s.heap [] := va_S.rf
  have hP : va_P G.1 vwCl [] s.heap := hP
  have hD : va_D A [] := hD
  have hl : lv_has ls 1 [(0, .int x0)] := hl
  obtain ⟨args, hargs⟩ : ∃ z : Array Value, z = ([.int x0] : List Value).toArray := ⟨_, rfl⟩
  rw [← hargs]
  rw [← hargs] at hts
  rw [fX4_isDot.eq_1] at h
  refine lv_iload_n hx hb dX4_isDot_0 rfl (lv_at hl 0 rfl) ?_
  refine lv_if_lt (tgt := 14) hx hb dX4_isDot_1 (by decide) (fun c_749 => ?_) (fun c_749 => ?_)
  · have h := ip c_749 h
    refine lv_iconst (v := 0) hx hb dX4_isDot_14 (by decide) ?_
    obtain ⟨hz, h⟩ := zo_inv h
    obtain rfl := Option.some.inj h
    exact wrz hx hb hr hlocks hP hD hS (Nat.le_of_ble_eq_true rfl) (Nat.le_of_ble_eq_true rfl) hz rfl dX4_isDot_15
  · have h := iq c_749 h
    refine lv_iload_n hx hb dX4_isDot_4 rfl (lv_at hl 0 rfl) ?_
    refine lv_bipush (v := 6) hx hb dX4_isDot_5 (by decide) ?_
    refine lv_icmp_ge (tgt := 14) hx hb dX4_isDot_7 (by decide) (fun c_750 => ?_) (fun c_750 => ?_)
    · have h := ip c_750 h
      refine lv_iconst (v := 0) hx hb dX4_isDot_14 (by decide) ?_
      obtain ⟨hz, h⟩ := zo_inv h
      obtain rfl := Option.some.inj h
      exact wrz hx hb hr hlocks hP hD hS (Nat.le_of_ble_eq_true rfl) (Nat.le_of_ble_eq_true rfl) hz rfl dX4_isDot_15
    · have h := iq c_750 h
      refine lv_iconst (v := 1) hx hb dX4_isDot_10 (by decide) ?_
      refine lv_goto (tgt := 15) hx hb dX4_isDot_11 (by decide) ?_
      obtain ⟨hz, h⟩ := zo_inv h
      obtain rfl := Option.some.inj h
      exact wrz hx hb hr hlocks hP hD hS (Nat.le_of_ble_eq_true rfl) (Nat.le_of_ble_eq_true rfl) hz rfl dX4_isDot_15
def fX4_edge (N : Nat) (g_e : Int64) (x1 : Int32) (x2 : Int32) : Option (String ⊕ (Int32 × Int64)) := bd (fX4_isDot N x1) (fun u_751 => if u_751 = 0 then some (.inl xIOO) else bd (fX4_isDot N x2) (fun u_754 => if u_754 = 0 then some (.inl xIOO) else if x1 = x2 then some (.inl xIAE) else bd (fX0_turn N g_e x1 x2) (fun u_758 => bd (fX0_count N u_758) (fun u_760 => some (.inr (u_760, u_758))))))
set_option maxHeartbeats 4000000 in
set_option maxRecDepth 100000 in
theorem nX4_edge {l : Launch} {G : wG} (c0 l0 l1 l2 l3 m0 m1 m2 m3 m4 m5 r0 r1 r2 r3 g0 : Nat) (g_e : Int64) (l_a : Nat → Int32) (l_b : Nat → Int32) (l_c : Nat → Int32) (l_n : Int32) (m_x : Nat → Int32) (m_y : Nat → Int32) (m_d : Nat → Int32) (m_t : Nat → Int32) (m_v : Nat → Int32) (m_n : Int32) (r_s : Nat → Int32) (r_n : Nat → Int32) (r_w : Nat → Int32) (r_k : Int32) (x1 : Int32) (x2 : Int32) (N : Nat) (v : Int32 × Int64) (h : fX4_edge N g_e x1 x2 = some (.inr v)) : wCi l G yX4_edge wsX4_edge ({ frames := 6, cells := 0, slots := 0, locals := 100 } : Room) [.ref c0, .int x1, .int x2] (w_C G c0 l0 l1 l2 l3 m0 m1 m2 m3 m4 m5 r0 r1 r2 r3 g0 g_e l_a l_b l_c l_n m_x m_y m_d m_t m_v m_n r_s r_n r_w r_k) (w_C G c0 l0 l1 l2 l3 m0 m1 m2 m3 m4 m5 r0 r1 r2 r3 g0 v.2 l_a l_b l_c l_n m_x m_y m_d m_t m_v m_n r_s r_n r_w r_k) 0 0 v.1 := by
  refine wCi.mk (cc := cX4_edge) (maxL := 3) (ty := .int) (by decide) rfl (Nat.le_of_ble_eq_true rfl) ?_
  intro p e s m below meth c A ls hx hb hml hr hlocks hts hown hK hA hP hD hl
  have hx : p.tables.exec = Jvm.exec := hx
  have hown : s.vm.findClass RX4 = some m.cls := hown
  have hinX4 : ∀ w ∈ wsX40, w ∈ wsX4_edge := by decide +kernel
  have lk33 := hts (.fieldLink RX4 33 "Chamberwright" "graph" "LChamberwright$Graph;") (by decide +kernel)
  have hS : va_S A s.heap s.heap [] := va_S.rf
  have hP : va_P G.1 vwCl (w_C G c0 l0 l1 l2 l3 m0 m1 m2 m3 m4 m5 r0 r1 r2 r3 g0 g_e l_a l_b l_c l_n m_x m_y m_d m_t m_v m_n r_s r_n r_w r_k) s.heap := hP
  have hD : va_D A (w_C G c0 l0 l1 l2 l3 m0 m1 m2 m3 m4 m5 r0 r1 r2 r3 g0 g_e l_a l_b l_c l_n m_x m_y m_d m_t m_v m_n r_s r_n r_w r_k) := hD
  have hl : lv_has ls 3 [(0, .ref c0), (1, .int x1), (2, .int x2)] := hl
  obtain ⟨args, hargs⟩ : ∃ z : Array Value, z = ([.ref c0, .int x1, .int x2] : List Value).toArray := ⟨_, rfl⟩
  rw [← hargs]
  rw [← hargs] at hts
  rw [fX4_edge.eq_1] at h
  refine lv_iload_n hx hb dX4_edge_0 rfl (lv_at hl 1 rfl) ?_
  obtain ⟨u_751, hc_752, h⟩ := bd_inv h
  refine wafter_i (wr := (w_C G c0 l0 l1 l2 l3 m0 m1 m2 m3 m4 m5 r0 r1 r2 r3 g0 g_e l_a l_b l_c l_n m_x m_y m_d m_t m_v m_n r_s r_n r_w r_k)) (w2 := (w_C G c0 l0 l1 l2 l3 m0 m1 m2 m3 m4 m5 r0 r1 r2 r3 g0 g_e l_a l_b l_c l_n m_x m_y m_d m_t m_v m_n r_s r_n r_w r_k)) (va_runS (As := [.int x1]) (rest := []) ⟨hx, hb, hml, hown, hts⟩ (kX4_isDot (l := l) (G := G)   x1 N u_751 hc_752 _) (va_cwS 1 hts gX4_edge_X4_isDot rfl rfl rfl (by decide +kernel) ⟨Nat.le_of_ble_eq_true rfl, Nat.le_of_ble_eq_true rfl⟩) (wPreS hP hD hK [] rfl rfl) rfl rfl hl.1 rfl (lv_room (Nat.le_of_ble_eq_true rfl)) dX4_edge_1 ⟨Nat.zero_le _, Nat.zero_le _⟩) hP hD hS hA [] [0, 1, 2, 3, 4, 5, 6, 7, 8, 9, 10, 11, 12, 13, 14, 15] [0, 1, 2, 3, 4, 5, 6, 7, 8, 9, 10, 11, 12, 13, 14, 15] rfl rfl rfl (by decide) rfl rfl (fun H locs hP hD hS => ?_)
  refine lv_if_eq (tgt := 14) hx hb dX4_edge_4 (by decide) (fun c_753 => ?_) (fun c_753 => ?_)
  · have h := ip c_753 h
    cases h
  · have h := iq c_753 h
    refine lv_iload_n hx hb dX4_edge_7 rfl (lv_at hl 2 rfl) ?_
    obtain ⟨u_754, hc_755, h⟩ := bd_inv h
    refine wafter_i (wr := (w_C G c0 l0 l1 l2 l3 m0 m1 m2 m3 m4 m5 r0 r1 r2 r3 g0 g_e l_a l_b l_c l_n m_x m_y m_d m_t m_v m_n r_s r_n r_w r_k)) (w2 := (w_C G c0 l0 l1 l2 l3 m0 m1 m2 m3 m4 m5 r0 r1 r2 r3 g0 g_e l_a l_b l_c l_n m_x m_y m_d m_t m_v m_n r_s r_n r_w r_k)) (va_runS (As := [.int x2]) (rest := []) ⟨hx, hb, hml, hown, hts⟩ (kX4_isDot (l := l) (G := G)   x2 N u_754 hc_755 _) (va_cwS 1 hts gX4_edge_X4_isDot rfl rfl rfl (by decide +kernel) ⟨Nat.le_of_ble_eq_true rfl, Nat.le_of_ble_eq_true rfl⟩) (wPreS hP hD hK [] rfl rfl) rfl rfl hl.1 rfl (lv_room (Nat.le_of_ble_eq_true rfl)) dX4_edge_8 ⟨Nat.zero_le _, Nat.zero_le _⟩) hP hD hS hA [] [0, 1, 2, 3, 4, 5, 6, 7, 8, 9, 10, 11, 12, 13, 14, 15] [0, 1, 2, 3, 4, 5, 6, 7, 8, 9, 10, 11, 12, 13, 14, 15] rfl rfl rfl (by decide) rfl rfl (fun H locs hP hD hS => ?_)
    refine lv_if_ne (tgt := 24) hx hb dX4_edge_11 (by decide) (fun c_756 => ?_) (fun c_756 => ?_)
    · have h := iq c_756 h
      refine lv_iload_n hx hb dX4_edge_24 rfl (lv_at hl 1 rfl) ?_
      refine lv_iload_n hx hb dX4_edge_25 rfl (lv_at hl 2 rfl) ?_
      refine lv_icmp_ne (tgt := 39) hx hb dX4_edge_26 (by decide) (fun c_757 => ?_) (fun c_757 => ?_)
      · have h := iq c_757 h
        refine lv_aload_n hx hb dX4_edge_39 rfl (lv_at hl 0 rfl) ?_
        refine va_get (D := G.1) (ci := 4) (v := .ref g0) (C := RX4) (T := TX4) (N := 4) hx hb hts hinX4 hown hK.1 hP 0 rfl rfl 3 (by decide) lk33 (fun _ h9 => h9) rfl dX4_edge_40 ?_
        refine lv_iload_n hx hb dX4_edge_43 rfl (lv_at hl 1 rfl) ?_
        refine lv_iload_n hx hb dX4_edge_44 rfl (lv_at hl 2 rfl) ?_
        obtain ⟨u_758, hc_759, h⟩ := bd_inv h
        refine wafter_v (wr := [(c0, .inr (4, [.ref l0, .ref m0, .ref r0, .ref g0])), (l0, .inr (1, [.ref l1, .ref l2, .ref l3, .int l_n])), (l1, .inl (G.2.1, 9, .inl l_a)), (l2, .inl (G.2.1, 9, .inl l_b)), (l3, .inl (G.2.1, 9, .inl l_c)), (m0, .inr (2, [.ref m1, .ref m2, .ref m3, .ref m4, .ref m5, .int m_n])), (m1, .inl (G.2.1, 36, .inl m_x)), (m2, .inl (G.2.1, 36, .inl m_y)), (m3, .inl (G.2.1, 36, .inl m_d)), (m4, .inl (G.2.1, 36, .inl m_t)), (m5, .inl (G.2.1, 36, .inl m_v)), (r0, .inr (3, [.ref r1, .ref r2, .ref r3, .int r_k])), (r1, .inl (G.2.1, 46, .inl r_s)), (r2, .inl (G.2.1, 512, .inl r_n)), (r3, .inl (G.2.1, 512, .inl r_w))]) (w2 := (w_C G c0 l0 l1 l2 l3 m0 m1 m2 m3 m4 m5 r0 r1 r2 r3 g0 u_758 l_a l_b l_c l_n m_x m_y m_d m_t m_v m_n r_s r_n r_w r_k)) (va_runV (As := [.int x1, .int x2]) (rest := []) ⟨hx, hb, hml, hown, hts⟩ (kX0_turn (l := l) (G := G) g0 g_e x1 x2 N u_758 hc_759 _) (cwV 2 hts gX4_edge_X0_turn rfl rfl rfl (by decide +kernel) ⟨Nat.le_of_ble_eq_true rfl, Nat.le_of_ble_eq_true rfl⟩) (wPreV hP hD hK [15] rfl rfl (ci := 0) (qb := 15) rfl rfl rfl) rfl rfl hl.1 rfl (lv_room (Nat.le_of_ble_eq_true rfl)) dX4_edge_45 ⟨Nat.zero_le _, Nat.zero_le _⟩) hP hD hS hA [15] [0, 1, 2, 3, 4, 5, 6, 7, 8, 9, 10, 11, 12, 13, 14] [0, 1, 2, 3, 4, 5, 6, 7, 8, 9, 10, 11, 12, 13, 14, 15] rfl rfl rfl (by decide) rfl rfl (fun H locs hP hD hS => ?_)
        refine lv_aload_n hx hb dX4_edge_48 rfl (lv_at hl 0 rfl) ?_
        refine va_get (D := G.1) (ci := 4) (v := .ref g0) (C := RX4) (T := TX4) (N := 4) hx hb hts hinX4 hown hK.1 hP 0 rfl rfl 3 (by decide) lk33 (fun _ h9 => h9) rfl dX4_edge_49 ?_
        obtain ⟨u_760, hc_761, h⟩ := bd_inv h
        refine wafter_i (wr := [(c0, .inr (4, [.ref l0, .ref m0, .ref r0, .ref g0])), (l0, .inr (1, [.ref l1, .ref l2, .ref l3, .int l_n])), (l1, .inl (G.2.1, 9, .inl l_a)), (l2, .inl (G.2.1, 9, .inl l_b)), (l3, .inl (G.2.1, 9, .inl l_c)), (m0, .inr (2, [.ref m1, .ref m2, .ref m3, .ref m4, .ref m5, .int m_n])), (m1, .inl (G.2.1, 36, .inl m_x)), (m2, .inl (G.2.1, 36, .inl m_y)), (m3, .inl (G.2.1, 36, .inl m_d)), (m4, .inl (G.2.1, 36, .inl m_t)), (m5, .inl (G.2.1, 36, .inl m_v)), (r0, .inr (3, [.ref r1, .ref r2, .ref r3, .int r_k])), (r1, .inl (G.2.1, 46, .inl r_s)), (r2, .inl (G.2.1, 512, .inl r_n)), (r3, .inl (G.2.1, 512, .inl r_w))]) (w2 := (w_C G c0 l0 l1 l2 l3 m0 m1 m2 m3 m4 m5 r0 r1 r2 r3 g0 u_758 l_a l_b l_c l_n m_x m_y m_d m_t m_v m_n r_s r_n r_w r_k)) (va_runV (As := []) (rest := []) ⟨hx, hb, hml, hown, hts⟩ (kX0_count (l := l) (G := G) g0 u_758  N u_760 hc_761 _) (cwV 0 hts gX4_edge_X0_count rfl rfl rfl (by decide +kernel) ⟨Nat.le_of_ble_eq_true rfl, Nat.le_of_ble_eq_true rfl⟩) (wPreV hP hD hK [15] rfl rfl (ci := 0) (qb := 15) rfl rfl rfl) rfl rfl hl.1 rfl (lv_room (Nat.le_of_ble_eq_true rfl)) dX4_edge_52 ⟨Nat.zero_le _, Nat.zero_le _⟩) hP hD hS hA [15] [0, 1, 2, 3, 4, 5, 6, 7, 8, 9, 10, 11, 12, 13, 14] [0, 1, 2, 3, 4, 5, 6, 7, 8, 9, 10, 11, 12, 13, 14, 15] rfl rfl rfl (by decide) rfl rfl (fun H locs hP hD hS => ?_)
        obtain rfl := Sum.inr.inj (Option.some.inj h)
        exact wri hx hb hr hlocks hP hD hS (Nat.le_of_ble_eq_true rfl) (Nat.le_of_ble_eq_true rfl) rfl dX4_edge_55
      · have h := ip c_757 h
        cases h
    · have h := ip c_756 h
      cases h
def fX4_checkColours (N : Nat) (x0 : Int32) : Option (String ⊕ (Unit)) := if x0 < 0 then some (.inl xIAE) else if x0 ≤ 6 then some (.inr ()) else some (.inl xIAE)
set_option maxHeartbeats 4000000 in
set_option maxRecDepth 100000 in
theorem nX4_checkColours {l : Launch} {G : wG} (x0 : Int32) (N : Nat) (v : Unit) (h : fX4_checkColours N x0 = some (.inr v)) : wCv l G yX4_checkColours wsX4_checkColours ({ frames := 6, cells := 0, slots := 0, locals := 100 } : Room) [.int x0] [] [] 0 0 := by
  refine wCv.mk (cc := cX4_checkColours) (maxL := 1) (by decide) rfl (Nat.le_of_ble_eq_true rfl) ?_
  intro p e s m below meth c A ls hx hb hml hr hlocks hts hown hK hA hP hD hl
  have hx : p.tables.exec = Jvm.exec := hx
  have hown : s.vm.findClass RX4 = some m.cls := hown
  have hS : va_S A s.heap s.heap [] := va_S.rf
  have hP : va_P G.1 vwCl [] s.heap := hP
  have hD : va_D A [] := hD
  have hl : lv_has ls 1 [(0, .int x0)] := hl
  obtain ⟨args, hargs⟩ : ∃ z : Array Value, z = ([.int x0] : List Value).toArray := ⟨_, rfl⟩
  rw [← hargs]
  rw [← hargs] at hts
  rw [fX4_checkColours.eq_1] at h
  refine lv_iload_n hx hb dX4_checkColours_0 rfl (lv_at hl 0 rfl) ?_
  refine lv_if_lt (tgt := 10) hx hb dX4_checkColours_1 (by decide) (fun c_762 => ?_) (fun c_762 => ?_)
  · have h := ip c_762 h
    cases h
  · have h := iq c_762 h
    refine lv_iload_n hx hb dX4_checkColours_4 rfl (lv_at hl 0 rfl) ?_
    refine lv_bipush (v := 6) hx hb dX4_checkColours_5 (by decide) ?_
    refine lv_icmp_le (tgt := 20) hx hb dX4_checkColours_7 (by decide) (fun c_763 => ?_) (fun c_763 => ?_)
    · have h := ip c_763 h
      obtain rfl := Sum.inr.inj (Option.some.inj h)
      exact wrv hx hb hr hlocks hP hD hS (Nat.le_of_ble_eq_true rfl) (Nat.le_of_ble_eq_true rfl) dX4_checkColours_20
    · have h := iq c_763 h
      cases h
def fX4_colourings (N : Nat) (g_e : Int64) (x1 : Int32) : Option (String ⊕ (Int32)) := bdx (fX4_checkColours N x1) (fun u_764 => bd (fX0_tryAllColours N g_e x1) (fun u_766 => some (.inr u_766)))
set_option maxHeartbeats 4000000 in
set_option maxRecDepth 100000 in
theorem nX4_colourings {l : Launch} {G : wG} (c0 l0 l1 l2 l3 m0 m1 m2 m3 m4 m5 r0 r1 r2 r3 g0 : Nat) (g_e : Int64) (l_a : Nat → Int32) (l_b : Nat → Int32) (l_c : Nat → Int32) (l_n : Int32) (m_x : Nat → Int32) (m_y : Nat → Int32) (m_d : Nat → Int32) (m_t : Nat → Int32) (m_v : Nat → Int32) (m_n : Int32) (r_s : Nat → Int32) (r_n : Nat → Int32) (r_w : Nat → Int32) (r_k : Int32) (x1 : Int32) (N : Nat) (v : Int32) (h : fX4_colourings N g_e x1 = some (.inr v)) : wCi l G yX4_colourings wsX4_colourings ({ frames := 19, cells := 0, slots := 0, locals := 519 } : Room) [.ref c0, .int x1] (w_C G c0 l0 l1 l2 l3 m0 m1 m2 m3 m4 m5 r0 r1 r2 r3 g0 g_e l_a l_b l_c l_n m_x m_y m_d m_t m_v m_n r_s r_n r_w r_k) (w_C G c0 l0 l1 l2 l3 m0 m1 m2 m3 m4 m5 r0 r1 r2 r3 g0 g_e l_a l_b l_c l_n m_x m_y m_d m_t m_v m_n r_s r_n r_w r_k) 0 0 v := by
  refine wCi.mk (cc := cX4_colourings) (maxL := 2) (ty := .int) (by decide) rfl (Nat.le_of_ble_eq_true rfl) ?_
  intro p e s m below meth c A ls hx hb hml hr hlocks hts hown hK hA hP hD hl
  have hx : p.tables.exec = Jvm.exec := hx
  have hown : s.vm.findClass RX4 = some m.cls := hown
  have hinX4 : ∀ w ∈ wsX40, w ∈ wsX4_colourings := by decide +kernel
  have lk33 := hts (.fieldLink RX4 33 "Chamberwright" "graph" "LChamberwright$Graph;") (by decide +kernel)
  have hS : va_S A s.heap s.heap [] := va_S.rf
  have hP : va_P G.1 vwCl (w_C G c0 l0 l1 l2 l3 m0 m1 m2 m3 m4 m5 r0 r1 r2 r3 g0 g_e l_a l_b l_c l_n m_x m_y m_d m_t m_v m_n r_s r_n r_w r_k) s.heap := hP
  have hD : va_D A (w_C G c0 l0 l1 l2 l3 m0 m1 m2 m3 m4 m5 r0 r1 r2 r3 g0 g_e l_a l_b l_c l_n m_x m_y m_d m_t m_v m_n r_s r_n r_w r_k) := hD
  have hl : lv_has ls 2 [(0, .ref c0), (1, .int x1)] := hl
  obtain ⟨args, hargs⟩ : ∃ z : Array Value, z = ([.ref c0, .int x1] : List Value).toArray := ⟨_, rfl⟩
  rw [← hargs]
  rw [← hargs] at hts
  rw [fX4_colourings.eq_1] at h
  refine lv_iload_n hx hb dX4_colourings_0 rfl (lv_at hl 1 rfl) ?_
  obtain ⟨u_764, hc_765, h⟩ := bdx_n h
  refine wafter_v (wr := (w_C G c0 l0 l1 l2 l3 m0 m1 m2 m3 m4 m5 r0 r1 r2 r3 g0 g_e l_a l_b l_c l_n m_x m_y m_d m_t m_v m_n r_s r_n r_w r_k)) (w2 := (w_C G c0 l0 l1 l2 l3 m0 m1 m2 m3 m4 m5 r0 r1 r2 r3 g0 g_e l_a l_b l_c l_n m_x m_y m_d m_t m_v m_n r_s r_n r_w r_k)) (va_runS (As := [.int x1]) (rest := []) ⟨hx, hb, hml, hown, hts⟩ (nX4_checkColours (l := l) (G := G)   x1 N u_764 hc_765 _) (va_cwS 1 hts gX4_colourings_X4_checkColours rfl rfl rfl (by decide +kernel) ⟨Nat.le_of_ble_eq_true rfl, Nat.le_of_ble_eq_true rfl⟩) (wPreS hP hD hK [] rfl rfl) rfl rfl hl.1 rfl (lv_room (Nat.le_of_ble_eq_true rfl)) dX4_colourings_1 ⟨Nat.zero_le _, Nat.zero_le _⟩) hP hD hS hA [] [0, 1, 2, 3, 4, 5, 6, 7, 8, 9, 10, 11, 12, 13, 14, 15] [0, 1, 2, 3, 4, 5, 6, 7, 8, 9, 10, 11, 12, 13, 14, 15] rfl rfl rfl (by decide) rfl rfl (fun H locs hP hD hS => ?_)
  refine lv_aload_n hx hb dX4_colourings_4 rfl (lv_at hl 0 rfl) ?_
  refine va_get (D := G.1) (ci := 4) (v := .ref g0) (C := RX4) (T := TX4) (N := 4) hx hb hts hinX4 hown hK.1 hP 0 rfl rfl 3 (by decide) lk33 (fun _ h9 => h9) rfl dX4_colourings_5 ?_
  refine lv_iload_n hx hb dX4_colourings_8 rfl (lv_at hl 1 rfl) ?_
  obtain ⟨u_766, hc_767, h⟩ := bd_inv h
  refine wafter_i (wr := [(c0, .inr (4, [.ref l0, .ref m0, .ref r0, .ref g0])), (l0, .inr (1, [.ref l1, .ref l2, .ref l3, .int l_n])), (l1, .inl (G.2.1, 9, .inl l_a)), (l2, .inl (G.2.1, 9, .inl l_b)), (l3, .inl (G.2.1, 9, .inl l_c)), (m0, .inr (2, [.ref m1, .ref m2, .ref m3, .ref m4, .ref m5, .int m_n])), (m1, .inl (G.2.1, 36, .inl m_x)), (m2, .inl (G.2.1, 36, .inl m_y)), (m3, .inl (G.2.1, 36, .inl m_d)), (m4, .inl (G.2.1, 36, .inl m_t)), (m5, .inl (G.2.1, 36, .inl m_v)), (r0, .inr (3, [.ref r1, .ref r2, .ref r3, .int r_k])), (r1, .inl (G.2.1, 46, .inl r_s)), (r2, .inl (G.2.1, 512, .inl r_n)), (r3, .inl (G.2.1, 512, .inl r_w))]) (w2 := (w_C G c0 l0 l1 l2 l3 m0 m1 m2 m3 m4 m5 r0 r1 r2 r3 g0 g_e l_a l_b l_c l_n m_x m_y m_d m_t m_v m_n r_s r_n r_w r_k)) (va_runV (As := [.int x1]) (rest := []) ⟨hx, hb, hml, hown, hts⟩ (kX0_tryAllColours (l := l) (G := G) g0 g_e x1 N u_766 hc_767 _) (cwV 1 hts gX4_colourings_X0_tryAllColours rfl rfl rfl (by decide +kernel) ⟨Nat.le_of_ble_eq_true rfl, Nat.le_of_ble_eq_true rfl⟩) (wPreV hP hD hK [15] rfl rfl (ci := 0) (qb := 15) rfl rfl rfl) rfl rfl hl.1 rfl (lv_room (Nat.le_of_ble_eq_true rfl)) dX4_colourings_9 ⟨Nat.zero_le _, Nat.zero_le _⟩) hP hD hS hA [15] [0, 1, 2, 3, 4, 5, 6, 7, 8, 9, 10, 11, 12, 13, 14] [0, 1, 2, 3, 4, 5, 6, 7, 8, 9, 10, 11, 12, 13, 14, 15] rfl rfl rfl (by decide) rfl rfl (fun H locs hP hD hS => ?_)
  obtain rfl := Sum.inr.inj (Option.some.inj h)
  exact wri hx hb hr hlocks hP hD hS (Nat.le_of_ble_eq_true rfl) (Nat.le_of_ble_eq_true rfl) rfl dX4_colourings_12
def fX4_colouringsAnew (N : Nat) (g_e : Int64) (x1 : Int32) : Option (String ⊕ (Int32)) := bdx (fX4_checkColours N x1) (fun u_768 => bd (fX0_takeApart N g_e x1) (fun u_770 => some (.inr u_770)))
set_option maxHeartbeats 4000000 in
set_option maxRecDepth 100000 in
theorem nX4_colouringsAnew {l : Launch} {G : wG} (c0 l0 l1 l2 l3 m0 m1 m2 m3 m4 m5 r0 r1 r2 r3 g0 : Nat) (g_e : Int64) (l_a : Nat → Int32) (l_b : Nat → Int32) (l_c : Nat → Int32) (l_n : Int32) (m_x : Nat → Int32) (m_y : Nat → Int32) (m_d : Nat → Int32) (m_t : Nat → Int32) (m_v : Nat → Int32) (m_n : Int32) (r_s : Nat → Int32) (r_n : Nat → Int32) (r_w : Nat → Int32) (r_k : Int32) (x1 : Int32) (N : Nat) (v : Int32) (h : fX4_colouringsAnew N g_e x1 = some (.inr v)) : wCi l G yX4_colouringsAnew wsX4_colouringsAnew ({ frames := 21, cells := 0, slots := 0, locals := 565 } : Room) [.ref c0, .int x1] (w_C G c0 l0 l1 l2 l3 m0 m1 m2 m3 m4 m5 r0 r1 r2 r3 g0 g_e l_a l_b l_c l_n m_x m_y m_d m_t m_v m_n r_s r_n r_w r_k) (w_C G c0 l0 l1 l2 l3 m0 m1 m2 m3 m4 m5 r0 r1 r2 r3 g0 g_e l_a l_b l_c l_n m_x m_y m_d m_t m_v m_n r_s r_n r_w r_k) 0 0 v := by
  refine wCi.mk (cc := cX4_colouringsAnew) (maxL := 2) (ty := .int) (by decide) rfl (Nat.le_of_ble_eq_true rfl) ?_
  intro p e s m below meth c A ls hx hb hml hr hlocks hts hown hK hA hP hD hl
  have hx : p.tables.exec = Jvm.exec := hx
  have hown : s.vm.findClass RX4 = some m.cls := hown
  have hinX4 : ∀ w ∈ wsX40, w ∈ wsX4_colouringsAnew := by decide +kernel
  have lk33 := hts (.fieldLink RX4 33 "Chamberwright" "graph" "LChamberwright$Graph;") (by decide +kernel)
  have hS : va_S A s.heap s.heap [] := va_S.rf
  have hP : va_P G.1 vwCl (w_C G c0 l0 l1 l2 l3 m0 m1 m2 m3 m4 m5 r0 r1 r2 r3 g0 g_e l_a l_b l_c l_n m_x m_y m_d m_t m_v m_n r_s r_n r_w r_k) s.heap := hP
  have hD : va_D A (w_C G c0 l0 l1 l2 l3 m0 m1 m2 m3 m4 m5 r0 r1 r2 r3 g0 g_e l_a l_b l_c l_n m_x m_y m_d m_t m_v m_n r_s r_n r_w r_k) := hD
  have hl : lv_has ls 2 [(0, .ref c0), (1, .int x1)] := hl
  obtain ⟨args, hargs⟩ : ∃ z : Array Value, z = ([.ref c0, .int x1] : List Value).toArray := ⟨_, rfl⟩
  rw [← hargs]
  rw [← hargs] at hts
  rw [fX4_colouringsAnew.eq_1] at h
  refine lv_iload_n hx hb dX4_colouringsAnew_0 rfl (lv_at hl 1 rfl) ?_
  obtain ⟨u_768, hc_769, h⟩ := bdx_n h
  refine wafter_v (wr := (w_C G c0 l0 l1 l2 l3 m0 m1 m2 m3 m4 m5 r0 r1 r2 r3 g0 g_e l_a l_b l_c l_n m_x m_y m_d m_t m_v m_n r_s r_n r_w r_k)) (w2 := (w_C G c0 l0 l1 l2 l3 m0 m1 m2 m3 m4 m5 r0 r1 r2 r3 g0 g_e l_a l_b l_c l_n m_x m_y m_d m_t m_v m_n r_s r_n r_w r_k)) (va_runS (As := [.int x1]) (rest := []) ⟨hx, hb, hml, hown, hts⟩ (nX4_checkColours (l := l) (G := G)   x1 N u_768 hc_769 _) (va_cwS 1 hts gX4_colouringsAnew_X4_checkColours rfl rfl rfl (by decide +kernel) ⟨Nat.le_of_ble_eq_true rfl, Nat.le_of_ble_eq_true rfl⟩) (wPreS hP hD hK [] rfl rfl) rfl rfl hl.1 rfl (lv_room (Nat.le_of_ble_eq_true rfl)) dX4_colouringsAnew_1 ⟨Nat.zero_le _, Nat.zero_le _⟩) hP hD hS hA [] [0, 1, 2, 3, 4, 5, 6, 7, 8, 9, 10, 11, 12, 13, 14, 15] [0, 1, 2, 3, 4, 5, 6, 7, 8, 9, 10, 11, 12, 13, 14, 15] rfl rfl rfl (by decide) rfl rfl (fun H locs hP hD hS => ?_)
  refine lv_aload_n hx hb dX4_colouringsAnew_4 rfl (lv_at hl 0 rfl) ?_
  refine va_get (D := G.1) (ci := 4) (v := .ref g0) (C := RX4) (T := TX4) (N := 4) hx hb hts hinX4 hown hK.1 hP 0 rfl rfl 3 (by decide) lk33 (fun _ h9 => h9) rfl dX4_colouringsAnew_5 ?_
  refine lv_iload_n hx hb dX4_colouringsAnew_8 rfl (lv_at hl 1 rfl) ?_
  obtain ⟨u_770, hc_771, h⟩ := bd_inv h
  refine wafter_i (wr := [(c0, .inr (4, [.ref l0, .ref m0, .ref r0, .ref g0])), (l0, .inr (1, [.ref l1, .ref l2, .ref l3, .int l_n])), (l1, .inl (G.2.1, 9, .inl l_a)), (l2, .inl (G.2.1, 9, .inl l_b)), (l3, .inl (G.2.1, 9, .inl l_c)), (m0, .inr (2, [.ref m1, .ref m2, .ref m3, .ref m4, .ref m5, .int m_n])), (m1, .inl (G.2.1, 36, .inl m_x)), (m2, .inl (G.2.1, 36, .inl m_y)), (m3, .inl (G.2.1, 36, .inl m_d)), (m4, .inl (G.2.1, 36, .inl m_t)), (m5, .inl (G.2.1, 36, .inl m_v)), (r0, .inr (3, [.ref r1, .ref r2, .ref r3, .int r_k])), (r1, .inl (G.2.1, 46, .inl r_s)), (r2, .inl (G.2.1, 512, .inl r_n)), (r3, .inl (G.2.1, 512, .inl r_w))]) (w2 := (w_C G c0 l0 l1 l2 l3 m0 m1 m2 m3 m4 m5 r0 r1 r2 r3 g0 g_e l_a l_b l_c l_n m_x m_y m_d m_t m_v m_n r_s r_n r_w r_k)) (va_runV (As := [.int x1]) (rest := []) ⟨hx, hb, hml, hown, hts⟩ (kX0_takeApart (l := l) (G := G) g0 g_e x1 N u_770 hc_771 _) (cwV 1 hts gX4_colouringsAnew_X0_takeApart rfl rfl rfl (by decide +kernel) ⟨Nat.le_of_ble_eq_true rfl, Nat.le_of_ble_eq_true rfl⟩) (wPreV hP hD hK [15] rfl rfl (ci := 0) (qb := 15) rfl rfl rfl) rfl rfl hl.1 rfl (lv_room (Nat.le_of_ble_eq_true rfl)) dX4_colouringsAnew_9 ⟨Nat.zero_le _, Nat.zero_le _⟩) hP hD hS hA [15] [0, 1, 2, 3, 4, 5, 6, 7, 8, 9, 10, 11, 12, 13, 14] [0, 1, 2, 3, 4, 5, 6, 7, 8, 9, 10, 11, 12, 13, 14, 15] rfl rfl rfl (by decide) rfl rfl (fun H locs hP hD hS => ?_)
  obtain rfl := Sum.inr.inj (Option.some.inj h)
  exact wri hx hb hr hlocks hP hD hS (Nat.le_of_ble_eq_true rfl) (Nat.le_of_ble_eq_true rfl) rfl dX4_colouringsAnew_12
def fX4_directions (N : Nat) (g_e : Int64) : Option (Int32) := bd (fX0_tryAllDirections N g_e) (fun u_772 => some u_772)
set_option maxHeartbeats 4000000 in
set_option maxRecDepth 100000 in
theorem kX4_directions {l : Launch} {G : wG} (c0 l0 l1 l2 l3 m0 m1 m2 m3 m4 m5 r0 r1 r2 r3 g0 : Nat) (g_e : Int64) (l_a : Nat → Int32) (l_b : Nat → Int32) (l_c : Nat → Int32) (l_n : Int32) (m_x : Nat → Int32) (m_y : Nat → Int32) (m_d : Nat → Int32) (m_t : Nat → Int32) (m_v : Nat → Int32) (m_n : Int32) (r_s : Nat → Int32) (r_n : Nat → Int32) (r_w : Nat → Int32) (r_k : Int32) (N : Nat) (v : Int32) (h : fX4_directions N g_e = some v) : wCi l G yX4_directions wsX4_directions ({ frames := 21, cells := 0, slots := 0, locals := 581 } : Room) [.ref c0] (w_C G c0 l0 l1 l2 l3 m0 m1 m2 m3 m4 m5 r0 r1 r2 r3 g0 g_e l_a l_b l_c l_n m_x m_y m_d m_t m_v m_n r_s r_n r_w r_k) (w_C G c0 l0 l1 l2 l3 m0 m1 m2 m3 m4 m5 r0 r1 r2 r3 g0 g_e l_a l_b l_c l_n m_x m_y m_d m_t m_v m_n r_s r_n r_w r_k) 0 0 v := by
  refine wCi.mk (cc := cX4_directions) (maxL := 1) (ty := .int) (by decide) rfl (Nat.le_of_ble_eq_true rfl) ?_
  intro p e s m below meth c A ls hx hb hml hr hlocks hts hown hK hA hP hD hl
  have hx : p.tables.exec = Jvm.exec := hx
  have hown : s.vm.findClass RX4 = some m.cls := hown
  have hinX4 : ∀ w ∈ wsX40, w ∈ wsX4_directions := by decide +kernel
  have lk33 := hts (.fieldLink RX4 33 "Chamberwright" "graph" "LChamberwright$Graph;") (by decide +kernel)
  have hS : va_S A s.heap s.heap [] := va_S.rf
  have hP : va_P G.1 vwCl (w_C G c0 l0 l1 l2 l3 m0 m1 m2 m3 m4 m5 r0 r1 r2 r3 g0 g_e l_a l_b l_c l_n m_x m_y m_d m_t m_v m_n r_s r_n r_w r_k) s.heap := hP
  have hD : va_D A (w_C G c0 l0 l1 l2 l3 m0 m1 m2 m3 m4 m5 r0 r1 r2 r3 g0 g_e l_a l_b l_c l_n m_x m_y m_d m_t m_v m_n r_s r_n r_w r_k) := hD
  have hl : lv_has ls 1 [(0, .ref c0)] := hl
  obtain ⟨args, hargs⟩ : ∃ z : Array Value, z = ([.ref c0] : List Value).toArray := ⟨_, rfl⟩
  rw [← hargs]
  rw [← hargs] at hts
  rw [fX4_directions.eq_1] at h
  refine lv_aload_n hx hb dX4_directions_0 rfl (lv_at hl 0 rfl) ?_
  refine va_get (D := G.1) (ci := 4) (v := .ref g0) (C := RX4) (T := TX4) (N := 4) hx hb hts hinX4 hown hK.1 hP 0 rfl rfl 3 (by decide) lk33 (fun _ h9 => h9) rfl dX4_directions_1 ?_
  obtain ⟨u_772, hc_773, h⟩ := bd_inv h
  refine wafter_i (wr := [(c0, .inr (4, [.ref l0, .ref m0, .ref r0, .ref g0])), (l0, .inr (1, [.ref l1, .ref l2, .ref l3, .int l_n])), (l1, .inl (G.2.1, 9, .inl l_a)), (l2, .inl (G.2.1, 9, .inl l_b)), (l3, .inl (G.2.1, 9, .inl l_c)), (m0, .inr (2, [.ref m1, .ref m2, .ref m3, .ref m4, .ref m5, .int m_n])), (m1, .inl (G.2.1, 36, .inl m_x)), (m2, .inl (G.2.1, 36, .inl m_y)), (m3, .inl (G.2.1, 36, .inl m_d)), (m4, .inl (G.2.1, 36, .inl m_t)), (m5, .inl (G.2.1, 36, .inl m_v)), (r0, .inr (3, [.ref r1, .ref r2, .ref r3, .int r_k])), (r1, .inl (G.2.1, 46, .inl r_s)), (r2, .inl (G.2.1, 512, .inl r_n)), (r3, .inl (G.2.1, 512, .inl r_w))]) (w2 := (w_C G c0 l0 l1 l2 l3 m0 m1 m2 m3 m4 m5 r0 r1 r2 r3 g0 g_e l_a l_b l_c l_n m_x m_y m_d m_t m_v m_n r_s r_n r_w r_k)) (va_runV (As := []) (rest := []) ⟨hx, hb, hml, hown, hts⟩ (kX0_tryAllDirections (l := l) (G := G) g0 g_e  N u_772 hc_773 _) (cwV 0 hts gX4_directions_X0_tryAllDirections rfl rfl rfl (by decide +kernel) ⟨Nat.le_of_ble_eq_true rfl, Nat.le_of_ble_eq_true rfl⟩) (wPreV hP hD hK [15] rfl rfl (ci := 0) (qb := 15) rfl rfl rfl) rfl rfl hl.1 rfl (lv_room (Nat.le_of_ble_eq_true rfl)) dX4_directions_4 ⟨Nat.zero_le _, Nat.zero_le _⟩) hP hD hS hA [15] [0, 1, 2, 3, 4, 5, 6, 7, 8, 9, 10, 11, 12, 13, 14] [0, 1, 2, 3, 4, 5, 6, 7, 8, 9, 10, 11, 12, 13, 14, 15] rfl rfl rfl (by decide) rfl rfl (fun H locs hP hD hS => ?_)
  obtain rfl := Option.some.inj h
  exact wri hx hb hr hlocks hP hD hS (Nat.le_of_ble_eq_true rfl) (Nat.le_of_ble_eq_true rfl) rfl dX4_directions_7
def fX4_directionsAnew (N : Nat) (g_e : Int64) : Option (Int32) := bd (fX0_takeApart N g_e (-1)) (fun u_774 => some u_774)
set_option maxHeartbeats 4000000 in
set_option maxRecDepth 100000 in
theorem kX4_directionsAnew {l : Launch} {G : wG} (c0 l0 l1 l2 l3 m0 m1 m2 m3 m4 m5 r0 r1 r2 r3 g0 : Nat) (g_e : Int64) (l_a : Nat → Int32) (l_b : Nat → Int32) (l_c : Nat → Int32) (l_n : Int32) (m_x : Nat → Int32) (m_y : Nat → Int32) (m_d : Nat → Int32) (m_t : Nat → Int32) (m_v : Nat → Int32) (m_n : Int32) (r_s : Nat → Int32) (r_n : Nat → Int32) (r_w : Nat → Int32) (r_k : Int32) (N : Nat) (v : Int32) (h : fX4_directionsAnew N g_e = some v) : wCi l G yX4_directionsAnew wsX4_directionsAnew ({ frames := 21, cells := 0, slots := 0, locals := 565 } : Room) [.ref c0] (w_C G c0 l0 l1 l2 l3 m0 m1 m2 m3 m4 m5 r0 r1 r2 r3 g0 g_e l_a l_b l_c l_n m_x m_y m_d m_t m_v m_n r_s r_n r_w r_k) (w_C G c0 l0 l1 l2 l3 m0 m1 m2 m3 m4 m5 r0 r1 r2 r3 g0 g_e l_a l_b l_c l_n m_x m_y m_d m_t m_v m_n r_s r_n r_w r_k) 0 0 v := by
  refine wCi.mk (cc := cX4_directionsAnew) (maxL := 1) (ty := .int) (by decide) rfl (Nat.le_of_ble_eq_true rfl) ?_
  intro p e s m below meth c A ls hx hb hml hr hlocks hts hown hK hA hP hD hl
  have hx : p.tables.exec = Jvm.exec := hx
  have hown : s.vm.findClass RX4 = some m.cls := hown
  have hinX4 : ∀ w ∈ wsX40, w ∈ wsX4_directionsAnew := by decide +kernel
  have lk33 := hts (.fieldLink RX4 33 "Chamberwright" "graph" "LChamberwright$Graph;") (by decide +kernel)
  have hS : va_S A s.heap s.heap [] := va_S.rf
  have hP : va_P G.1 vwCl (w_C G c0 l0 l1 l2 l3 m0 m1 m2 m3 m4 m5 r0 r1 r2 r3 g0 g_e l_a l_b l_c l_n m_x m_y m_d m_t m_v m_n r_s r_n r_w r_k) s.heap := hP
  have hD : va_D A (w_C G c0 l0 l1 l2 l3 m0 m1 m2 m3 m4 m5 r0 r1 r2 r3 g0 g_e l_a l_b l_c l_n m_x m_y m_d m_t m_v m_n r_s r_n r_w r_k) := hD
  have hl : lv_has ls 1 [(0, .ref c0)] := hl
  obtain ⟨args, hargs⟩ : ∃ z : Array Value, z = ([.ref c0] : List Value).toArray := ⟨_, rfl⟩
  rw [← hargs]
  rw [← hargs] at hts
  rw [fX4_directionsAnew.eq_1] at h
  refine lv_aload_n hx hb dX4_directionsAnew_0 rfl (lv_at hl 0 rfl) ?_
  refine va_get (D := G.1) (ci := 4) (v := .ref g0) (C := RX4) (T := TX4) (N := 4) hx hb hts hinX4 hown hK.1 hP 0 rfl rfl 3 (by decide) lk33 (fun _ h9 => h9) rfl dX4_directionsAnew_1 ?_
  refine lv_iconst (v := (-1)) hx hb dX4_directionsAnew_4 (by decide) ?_
  obtain ⟨u_774, hc_775, h⟩ := bd_inv h
  refine wafter_i (wr := [(c0, .inr (4, [.ref l0, .ref m0, .ref r0, .ref g0])), (l0, .inr (1, [.ref l1, .ref l2, .ref l3, .int l_n])), (l1, .inl (G.2.1, 9, .inl l_a)), (l2, .inl (G.2.1, 9, .inl l_b)), (l3, .inl (G.2.1, 9, .inl l_c)), (m0, .inr (2, [.ref m1, .ref m2, .ref m3, .ref m4, .ref m5, .int m_n])), (m1, .inl (G.2.1, 36, .inl m_x)), (m2, .inl (G.2.1, 36, .inl m_y)), (m3, .inl (G.2.1, 36, .inl m_d)), (m4, .inl (G.2.1, 36, .inl m_t)), (m5, .inl (G.2.1, 36, .inl m_v)), (r0, .inr (3, [.ref r1, .ref r2, .ref r3, .int r_k])), (r1, .inl (G.2.1, 46, .inl r_s)), (r2, .inl (G.2.1, 512, .inl r_n)), (r3, .inl (G.2.1, 512, .inl r_w))]) (w2 := (w_C G c0 l0 l1 l2 l3 m0 m1 m2 m3 m4 m5 r0 r1 r2 r3 g0 g_e l_a l_b l_c l_n m_x m_y m_d m_t m_v m_n r_s r_n r_w r_k)) (va_runV (As := [.int (-1)]) (rest := []) ⟨hx, hb, hml, hown, hts⟩ (kX0_takeApart (l := l) (G := G) g0 g_e (-1) N u_774 hc_775 _) (cwV 1 hts gX4_directionsAnew_X0_takeApart rfl rfl rfl (by decide +kernel) ⟨Nat.le_of_ble_eq_true rfl, Nat.le_of_ble_eq_true rfl⟩) (wPreV hP hD hK [15] rfl rfl (ci := 0) (qb := 15) rfl rfl rfl) rfl rfl hl.1 rfl (lv_room (Nat.le_of_ble_eq_true rfl)) dX4_directionsAnew_5 ⟨Nat.zero_le _, Nat.zero_le _⟩) hP hD hS hA [15] [0, 1, 2, 3, 4, 5, 6, 7, 8, 9, 10, 11, 12, 13, 14] [0, 1, 2, 3, 4, 5, 6, 7, 8, 9, 10, 11, 12, 13, 14, 15] rfl rfl rfl (by decide) rfl rfl (fun H locs hP hD hS => ?_)
  obtain rfl := Option.some.inj h
  exact wri hx hb hr hlocks hP hD hS (Nat.le_of_ble_eq_true rfl) (Nat.le_of_ble_eq_true rfl) rfl dX4_directionsAnew_8
