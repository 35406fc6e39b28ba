def fX4_isTooFar (N : Nat) (x0 : Int32) : Option (Int32) := if x0 < (-9) then zo 1 (some 1) else if x0 ≤ 9 then zo 0 (some 0) else zo 1 (some 1)
set_option maxHeartbeats 4000000 in
set_option maxRecDepth 100000 in
theorem kX4_isTooFar {l : Launch} {G : wG} (x0 : Int32) (N : Nat) (v : Int32) (h : fX4_isTooFar N x0 = some v) : wCi l G yX4_isTooFar wsX4_isTooFar ({ frames := 0, cells := 0, slots := 0, locals := 0 } : Room) [.int x0] [] [] 0 0 v := by
  refine wCi.mk (cc := cX4_isTooFar) (maxL := 1) (ty := .boolean) (by decide) rfl (Nat.le_of_ble_eq_true rfl) ?_
  intro p e s m below meth c A ls hx hb hml hr hlocks hts hown hK hA hP hD hl
  have hx : p.tables.exec = Jvm.exec := hx
  have hown : s.vm.findClass RX4 = some m.cls := hown
  have hS : va_S A s.heap s.heap [] := va_S.rf
  have hP : va_P G.1 vwCl [] s.heap := hP
  have hD : va_D A [] := hD
  have hl : lv_has ls 1 [(0, .int x0)] := hl
  obtain ⟨args, hargs⟩ : ∃ z : Array Value, z = ([.int x0] : List Value).toArray := ⟨_, rfl⟩
  rw [← hargs]
  rw [← hargs] at hts
  rw [fX4_isTooFar.eq_1] at h
  refine lv_iload_n hx hb dX4_isTooFar_0 rfl (lv_at hl 0 rfl) ?_
  refine lv_bipush (v := (-9)) hx hb dX4_isTooFar_1 (by decide) ?_
  refine lv_icmp_lt (tgt := 12) hx hb dX4_isTooFar_3 (by decide) (fun c_1248 => ?_) (fun c_1248 => ?_)
  · have h := ip c_1248 h
    refine lv_iconst (v := 1) hx hb dX4_isTooFar_12 (by decide) ?_
    refine lv_goto (tgt := 17) hx hb dX4_isTooFar_13 (by decide) ?_
    obtain ⟨hz, h⟩ := zo_inv h
    obtain rfl := Option.some.inj h
    exact wrz hx hb hr hlocks hP hD hS (Nat.le_of_ble_eq_true rfl) (Nat.le_of_ble_eq_true rfl) hz rfl dX4_isTooFar_17
  · have h := iq c_1248 h
    refine lv_iload_n hx hb dX4_isTooFar_6 rfl (lv_at hl 0 rfl) ?_
    refine lv_bipush (v := 9) hx hb dX4_isTooFar_7 (by decide) ?_
    refine lv_icmp_le (tgt := 16) hx hb dX4_isTooFar_9 (by decide) (fun c_1249 => ?_) (fun c_1249 => ?_)
    · have h := ip c_1249 h
      refine lv_iconst (v := 0) hx hb dX4_isTooFar_16 (by decide) ?_
      obtain ⟨hz, h⟩ := zo_inv h
      obtain rfl := Option.some.inj h
      exact wrz hx hb hr hlocks hP hD hS (Nat.le_of_ble_eq_true rfl) (Nat.le_of_ble_eq_true rfl) hz rfl dX4_isTooFar_17
    · have h := iq c_1249 h
      refine lv_iconst (v := 1) hx hb dX4_isTooFar_12 (by decide) ?_
      refine lv_goto (tgt := 17) hx hb dX4_isTooFar_13 (by decide) ?_
      obtain ⟨hz, h⟩ := zo_inv h
      obtain rfl := Option.some.inj h
      exact wrz hx hb hr hlocks hP hD hS (Nat.le_of_ble_eq_true rfl) (Nat.le_of_ble_eq_true rfl) hz rfl dX4_isTooFar_17
def fX4_lookAnew (N : Nat) (l_a : Nat → Int32) (l_b : Nat → Int32) (l_c : Nat → Int32) (l_n : Int32) (m_x : Nat → Int32) (m_y : Nat → Int32) (m_d : Nat → Int32) (m_t : Nat → Int32) (m_v : Nat → Int32) (m_n : Int32) (r_s : Nat → Int32) (r_n : Nat → Int32) (r_k : Int32) : Option ((Nat → Int32) × (Nat → Int32) × (Nat → Int32) × (Nat → Int32) × (Nat → Int32) × Int32 × (Nat → Int32) × (Nat → Int32) × Int32) := bd (fX2_find N l_a l_b l_c l_n m_x m_y m_d m_t m_v m_n) (fun u_1250 => bd (fX3_find N l_a l_b l_c l_n u_1250.1 u_1250.2.1 u_1250.2.2.1 u_1250.2.2.2.1 u_1250.2.2.2.2.2 r_s r_n r_k) (fun u_1252 => some (u_1250.1, u_1250.2.1, u_1250.2.2.1, u_1250.2.2.2.1, u_1250.2.2.2.2.1, u_1250.2.2.2.2.2, u_1252.1, u_1252.2.1, u_1252.2.2)))
set_option maxHeartbeats 4000000 in
set_option maxRecDepth 100000 in
theorem kX4_lookAnew {l : Launch} {G : wG} (c0 l0 l1 l2 l3 m0 m1 m2 m3 m4 m5 r0 r1 r2 r3 g0 : Nat) (g_e : Int64) (l_a : Nat → Int32) (l_b : Nat → Int32) (l_c : Nat → Int32) (l_n : Int32) (m_x : Nat → Int32) (m_y : Nat → Int32) (m_d : Nat → Int32) (m_t : Nat → Int32) (m_v : Nat → Int32) (m_n : Int32) (r_s : Nat → Int32) (r_n : Nat → Int32) (r_w : Nat → Int32) (r_k : Int32) (N : Nat) (v : (Nat → Int32) × (Nat → Int32) × (Nat → Int32) × (Nat → Int32) × (Nat → Int32) × Int32 × (Nat → Int32) × (Nat → Int32) × Int32) (h : fX4_lookAnew N l_a l_b l_c l_n m_x m_y m_d m_t m_v m_n r_s r_n r_k = some v) : wCv l G yX4_lookAnew wsX4_lookAnew ({ frames := 5, cells := 0, slots := 0, locals := 128 } : Room) [.ref c0] (w_C G c0 l0 l1 l2 l3 m0 m1 m2 m3 m4 m5 r0 r1 r2 r3 g0 g_e l_a l_b l_c l_n m_x m_y m_d m_t m_v m_n r_s r_n r_w r_k) (w_C G c0 l0 l1 l2 l3 m0 m1 m2 m3 m4 m5 r0 r1 r2 r3 g0 g_e l_a l_b l_c l_n v.1 v.2.1 v.2.2.1 v.2.2.2.1 v.2.2.2.2.1 v.2.2.2.2.2.1 v.2.2.2.2.2.2.1 v.2.2.2.2.2.2.2.1 r_w v.2.2.2.2.2.2.2.2) 0 0 := by
  refine wCv.mk (cc := cX4_lookAnew) (maxL := 1) (by decide) rfl (Nat.le_of_ble_eq_true rfl) ?_
  intro p e s m below meth c A ls hx hb hml hr hlocks hts hown hK hA hP hD hl
  have hx : p.tables.exec = Jvm.exec := hx
  have hown : s.vm.findClass RX4 = some m.cls := hown
  have hinX4 : ∀ w ∈ wsX40, w ∈ wsX4_lookAnew := by decide +kernel
  have lk10 := hts (.fieldLink RX4 10 "Chamberwright" "lines" "LChamberwright$Lines;") (by decide +kernel)
  have lk19 := hts (.fieldLink RX4 19 "Chamberwright" "meets" "LChamberwright$Meets;") (by decide +kernel)
  have lk26 := hts (.fieldLink RX4 26 "Chamberwright" "rooms" "LChamberwright$Rooms;") (by decide +kernel)
  have hS : va_S A s.heap s.heap [] := va_S.rf
  have hP : va_P G.1 vwCl (w_C G c0 l0 l1 l2 l3 m0 m1 m2 m3 m4 m5 r0 r1 r2 r3 g0 g_e l_a l_b l_c l_n m_x m_y m_d m_t m_v m_n r_s r_n r_w r_k) s.heap := hP
  have hD : va_D A (w_C G c0 l0 l1 l2 l3 m0 m1 m2 m3 m4 m5 r0 r1 r2 r3 g0 g_e l_a l_b l_c l_n m_x m_y m_d m_t m_v m_n r_s r_n r_w r_k) := hD
  have hl : lv_has ls 1 [(0, .ref c0)] := hl
  obtain ⟨args, hargs⟩ : ∃ z : Array Value, z = ([.ref c0] : List Value).toArray := ⟨_, rfl⟩
  rw [← hargs]
  rw [← hargs] at hts
  rw [fX4_lookAnew.eq_1] at h
  refine lv_aload_n hx hb dX4_lookAnew_0 rfl (lv_at hl 0 rfl) ?_
  refine va_get (D := G.1) (ci := 4) (v := .ref m0) (C := RX4) (T := TX4) (N := 4) hx hb hts hinX4 hown hK.1 hP 0 rfl rfl 1 (by decide) lk19 (fun _ h9 => h9) rfl dX4_lookAnew_1 ?_
  refine lv_aload_n hx hb dX4_lookAnew_4 rfl (lv_at hl 0 rfl) ?_
  refine va_get (D := G.1) (ci := 4) (v := .ref l0) (C := RX4) (T := TX4) (N := 4) hx hb hts hinX4 hown hK.1 hP 0 rfl rfl 0 (by decide) lk10 (fun _ h9 => h9) rfl dX4_lookAnew_5 ?_
  obtain ⟨u_1250, hc_1251, h⟩ := bd_inv h
  refine wafter_v (wr := [(c0, .inr (4, [.ref l0, .ref m0, .ref r0, .ref g0])), (r0, .inr (3, [.ref r1, .ref r2, .ref r3, .int r_k])), (r1, .inl (G.2.1, 46, .inl r_s)), (r2, .inl (G.2.1, 512, .inl r_n)), (r3, .inl (G.2.1, 512, .inl r_w)), (g0, .inr (0, [.long g_e]))]) (w2 := (w_C G c0 l0 l1 l2 l3 m0 m1 m2 m3 m4 m5 r0 r1 r2 r3 g0 g_e l_a l_b l_c l_n u_1250.1 u_1250.2.1 u_1250.2.2.1 u_1250.2.2.2.1 u_1250.2.2.2.2.1 u_1250.2.2.2.2.2 r_s r_n r_w r_k)) (va_runV (As := [.ref l0]) (rest := []) ⟨hx, hb, hml, hown, hts⟩ (kX2_find (l := l) (G := G) m0 m1 m2 m3 m4 m5 l0 l1 l2 l3 l_a l_b l_c l_n m_x m_y m_d m_t m_v m_n  N u_1250 hc_1251 _) (cwV 1 hts gX4_lookAnew_X2_find rfl rfl rfl (by decide +kernel) ⟨Nat.le_of_ble_eq_true rfl, Nat.le_of_ble_eq_true rfl⟩) (wPreV hP hD hK [5, 6, 7, 8, 9, 10, 1, 2, 3, 4] rfl rfl (ci := 2) (qb := 5) rfl rfl rfl) rfl rfl hl.1 rfl (lv_room (Nat.le_of_ble_eq_true rfl)) dX4_lookAnew_8 ⟨Nat.zero_le _, Nat.zero_le _⟩) hP hD hS hA [5, 6, 7, 8, 9, 10, 1, 2, 3, 4] [0, 11, 12, 13, 14, 15] [0, 12, 13, 14, 15, 6, 7, 8, 9, 10, 11, 1, 2, 3, 4, 5] rfl rfl rfl (by decide) rfl rfl (fun H locs hP hD hS => ?_)
  refine lv_aload_n hx hb dX4_lookAnew_11 rfl (lv_at hl 0 rfl) ?_
  refine va_get (D := G.1) (ci := 4) (v := .ref r0) (C := RX4) (T := TX4) (N := 4) hx hb hts hinX4 hown hK.1 hP 0 rfl rfl 2 (by decide) lk26 (fun _ h9 => h9) rfl dX4_lookAnew_12 ?_
  refine lv_aload_n hx hb dX4_lookAnew_15 rfl (lv_at hl 0 rfl) ?_
  refine va_get (D := G.1) (ci := 4) (v := .ref l0) (C := RX4) (T := TX4) (N := 4) hx hb hts hinX4 hown hK.1 hP 0 rfl rfl 0 (by decide) lk10 (fun _ h9 => h9) rfl dX4_lookAnew_16 ?_
  refine lv_aload_n hx hb dX4_lookAnew_19 rfl (lv_at hl 0 rfl) ?_
  refine va_get (D := G.1) (ci := 4) (v := .ref m0) (C := RX4) (T := TX4) (N := 4) hx hb hts hinX4 hown hK.1 hP 0 rfl rfl 1 (by decide) lk19 (fun _ h9 => h9) rfl dX4_lookAnew_20 ?_
  obtain ⟨u_1252, hc_1253, h⟩ := bd_inv h
  refine wafter_v (wr := [(c0, .inr (4, [.ref l0, .ref m0, .ref r0, .ref g0])), (g0, .inr (0, [.long g_e]))]) (w2 := (w_C G c0 l0 l1 l2 l3 m0 m1 m2 m3 m4 m5 r0 r1 r2 r3 g0 g_e l_a l_b l_c l_n u_1250.1 u_1250.2.1 u_1250.2.2.1 u_1250.2.2.2.1 u_1250.2.2.2.2.1 u_1250.2.2.2.2.2 u_1252.1 u_1252.2.1 r_w u_1252.2.2)) (va_runV (As := [.ref l0, .ref m0]) (rest := []) ⟨hx, hb, hml, hown, hts⟩ (kX3_find (l := l) (G := G) r0 r1 r2 r3 l0 l1 l2 l3 m0 m1 m2 m3 m4 m5 l_a l_b l_c l_n u_1250.1 u_1250.2.1 u_1250.2.2.1 u_1250.2.2.2.1 u_1250.2.2.2.2.1 u_1250.2.2.2.2.2 r_s r_n r_w r_k  N u_1252 hc_1253 _) (cwV 2 hts gX4_lookAnew_X3_find rfl rfl rfl (by decide +kernel) ⟨Nat.le_of_ble_eq_true rfl, Nat.le_of_ble_eq_true rfl⟩) (wPreV hP hD hK [11, 12, 13, 14, 1, 2, 3, 4, 5, 6, 7, 8, 9, 10] rfl rfl (ci := 3) (qb := 11) rfl rfl rfl) rfl rfl hl.1 rfl (lv_room (Nat.le_of_ble_eq_true rfl)) dX4_lookAnew_23 ⟨Nat.zero_le _, Nat.zero_le _⟩) hP hD hS hA [11, 12, 13, 14, 1, 2, 3, 4, 5, 6, 7, 8, 9, 10] [0, 15] [0, 6, 7, 8, 9, 10, 11, 12, 13, 14, 15, 2, 3, 4, 5, 1] rfl rfl rfl (by decide) rfl rfl (fun H locs hP hD hS => ?_)
  obtain rfl := Option.some.inj h
  exact wrv hx hb hr hlocks hP hD hS (Nat.le_of_ble_eq_true rfl) (Nat.le_of_ble_eq_true rfl) dX4_lookAnew_26
def fX4_line_b39 (N : Nat) (x1 : Int32) (x2 : Int32) (x3 : Int32) (l_a : Nat → Int32) (l_b : Nat → Int32) (l_c : Nat → Int32) (l_n : Int32) (m_x : Nat → Int32) (m_y : Nat → Int32) (m_d : Nat → Int32) (m_t : Nat → Int32) (m_v : Nat → Int32) (m_n : Int32) (r_s : Nat → Int32) (r_n : Nat → Int32) (r_k : Int32) : Option (String ⊕ (Int32 × (Nat → Int32) × (Nat → Int32) × (Nat → Int32) × Int32 × (Nat → Int32) × (Nat → Int32) × (Nat → Int32) × (Nat → Int32) × (Nat → Int32) × Int32 × (Nat → Int32) × (Nat → Int32) × Int32)) := bd (fX1_isFull N l_n) (fun u_1254 => if u_1254 = 0 then bd (fX1_numberOf N l_a l_b l_c l_n x1 x2 x3) (fun u_1257 => if u_1257 = (-1) then bd (fX1_append N l_a l_b l_c l_n x1 x2 x3) (fun u_1260 => bd (fX4_lookAnew N u_1260.1 u_1260.2.1 u_1260.2.2.1 u_1260.2.2.2 m_x m_y m_d m_t m_v m_n r_s r_n r_k) (fun u_1262 => bd (fX1_count N u_1260.2.2.2) (fun u_1264 => some (.inr ((u_1264 - 1), u_1260.1, u_1260.2.1, u_1260.2.2.1, u_1260.2.2.2, u_1262.1, u_1262.2.1, u_1262.2.2.1, u_1262.2.2.2.1, u_1262.2.2.2.2.1, u_1262.2.2.2.2.2.1, u_1262.2.2.2.2.2.2.1, u_1262.2.2.2.2.2.2.2.1, u_1262.2.2.2.2.2.2.2.2))))) else some (.inl xISE)) else some (.inl xISE))
def fX4_line (N : Nat) (l_a : Nat → Int32) (l_b : Nat → Int32) (l_c : Nat → Int32) (l_n : Int32) (m_x : Nat → Int32) (m_y : Nat → Int32) (m_d : Nat → Int32) (m_t : Nat → Int32) (m_v : Nat → Int32) (m_n : Int32) (r_s : Nat → Int32) (r_n : Nat → Int32) (r_k : Int32) (x1 : Int32) (x2 : Int32) (x3 : Int32) : Option (String ⊕ (Int32 × (Nat → Int32) × (Nat → Int32) × (Nat → Int32) × Int32 × (Nat → Int32) × (Nat → Int32) × (Nat → Int32) × (Nat → Int32) × (Nat → Int32) × Int32 × (Nat → Int32) × (Nat → Int32) × Int32)) := bd (fX4_isTooFar N x1) (fun u_1266 => if u_1266 = 0 then bd (fX4_isTooFar N x2) (fun u_1269 => if u_1269 = 0 then bd (fX4_isTooFar N x3) (fun u_1272 => if u_1272 = 0 then if x1 = 0 then if x2 = 0 then some (.inl xIAE) else fX4_line_b39 N x1 x2 x3 l_a l_b l_c l_n m_x m_y m_d m_t m_v m_n r_s r_n r_k else fX4_line_b39 N x1 x2 x3 l_a l_b l_c l_n m_x m_y m_d m_t m_v m_n r_s r_n r_k else some (.inl xIAE)) else some (.inl xIAE)) else some (.inl xIAE))
set_option maxHeartbeats 4000000 in
set_option maxRecDepth 100000 in
theorem kX4_line {l : Launch} (hst : l.stackTraces = false) {G : wG} (c0 l0 l1 l2 l3 m0 m1 m2 m3 m4 m5 r0 r1 r2 r3 g0 : Nat) (g_e : Int64) (l_a : Nat → Int32) (l_b : Nat → Int32) (l_c : Nat → Int32) (l_n : Int32) (m_x : Nat → Int32) (m_y : Nat → Int32) (m_d : Nat → Int32) (m_t : Nat → Int32) (m_v : Nat → Int32) (m_n : Int32) (r_s : Nat → Int32) (r_n : Nat → Int32) (r_w : Nat → Int32) (r_k : Int32) (x1 : Int32) (x2 : Int32) (x3 : Int32) (N : Nat) (v : String ⊕ (Int32 × (Nat → Int32) × (Nat → Int32) × (Nat → Int32) × Int32 × (Nat → Int32) × (Nat → Int32) × (Nat → Int32) × (Nat → Int32) × (Nat → Int32) × Int32 × (Nat → Int32) × (Nat → Int32) × Int32)) (h : fX4_line N l_a l_b l_c l_n m_x m_y m_d m_t m_v m_n r_s r_n r_k x1 x2 x3 = some v) : wXi l G yX4_line wsX4_line ({ frames := 6, cells := 4, slots := 24, locals := 148 } : Room) [.ref c0, .int x1, .int x2, .int x3] (w_C G c0 l0 l1 l2 l3 m0 m1 m2 m3 m4 m5 r0 r1 r2 r3 g0 g_e l_a l_b l_c l_n m_x m_y m_d m_t m_v m_n r_s r_n r_w r_k) v (fun t : Int32 × (Nat → Int32) × (Nat → Int32) × (Nat → Int32) × Int32 × (Nat → Int32) × (Nat → Int32) × (Nat → Int32) × (Nat → Int32) × (Nat → Int32) × Int32 × (Nat → Int32) × (Nat → Int32) × Int32 => (w_C G c0 l0 l1 l2 l3 m0 m1 m2 m3 m4 m5 r0 r1 r2 r3 g0 g_e t.2.1 t.2.2.1 t.2.2.2.1 t.2.2.2.2.1 t.2.2.2.2.2.1 t.2.2.2.2.2.2.1 t.2.2.2.2.2.2.2.1 t.2.2.2.2.2.2.2.2.1 t.2.2.2.2.2.2.2.2.2.1 t.2.2.2.2.2.2.2.2.2.2.1 t.2.2.2.2.2.2.2.2.2.2.2.1 t.2.2.2.2.2.2.2.2.2.2.2.2.1 r_w t.2.2.2.2.2.2.2.2.2.2.2.2.2)) (fun t : Int32 × (Nat → Int32) × (Nat → Int32) × (Nat → Int32) × Int32 × (Nat → Int32) × (Nat → Int32) × (Nat → Int32) × (Nat → Int32) × (Nat → Int32) × Int32 × (Nat → Int32) × (Nat → Int32) × Int32 => t.1) 4 24 := by
  refine wXi.mk (cc := cX4_line) (maxL := 4) (ty := .int) (by decide) rfl (Nat.le_of_ble_eq_true rfl) ?_
  intro p e s m below meth c A ls hx hb hml hr hlocks hts hown hK hA hP hD hT hnoh hl
  have hx : p.tables.exec = Jvm.exec := hx
  have hown : s.vm.findClass RX4 = some m.cls := hown
  have hinX4 : ∀ w ∈ wsX40, w ∈ wsX4_line := by decide +kernel
  have lk10 := hts (.fieldLink RX4 10 "Chamberwright" "lines" "LChamberwright$Lines;") (by decide +kernel)
  have lxIAE := hts (.classLink RX4 41 xIAE) (by decide +kernel)
  have iniIAE := hts (.initialized xIAE) (by decide +kernel)
  have gwIAE : ∀ w ∈ (vx_atS RX4 45 xIAE xNms).filter goodWord, w.before _ s = true := fun w hw => hts w ((by decide +kernel : ∀ w ∈ (vx_atS RX4 45 xIAE xNms).filter goodWord, w ∈ wsX4_line) w hw)
  have lxISE := hts (.classLink RX4 56 xISE) (by decide +kernel)
  have iniISE := hts (.initialized xISE) (by decide +kernel)
  have gwISE : ∀ w ∈ (vx_atS RX4 60 xISE xNms).filter goodWord, w.before _ s = true := fun w hw => hts w ((by decide +kernel : ∀ w ∈ (vx_atS RX4 60 xISE xNms).filter goodWord, w ∈ wsX4_line) w hw)
  have hS : va_S A s.heap s.heap [] := va_S.rf
  have hP : va_P G.1 vwCl (w_C G c0 l0 l1 l2 l3 m0 m1 m2 m3 m4 m5 r0 r1 r2 r3 g0 g_e l_a l_b l_c l_n m_x m_y m_d m_t m_v m_n r_s r_n r_w r_k) s.heap := hP
  have hD : va_D A (w_C G c0 l0 l1 l2 l3 m0 m1 m2 m3 m4 m5 r0 r1 r2 r3 g0 g_e l_a l_b l_c l_n m_x m_y m_d m_t m_v m_n r_s r_n r_w r_k) := hD
  have hl : lv_has ls 4 [(0, .ref c0), (1, .int x1), (2, .int x2), (3, .int x3)] := hl
  obtain ⟨args, hargs⟩ : ∃ z : Array Value, z = ([.ref c0, .int x1, .int x2, .int x3] : List Value).toArray := ⟨_, rfl⟩
  rw [← hargs]
  rw [← hargs] at hts
  rw [← hargs] at lxIAE iniIAE gwIAE
  rw [← hargs] at lxISE iniISE gwISE
  have w_39 : ∀ (x1 : Int32) (x2 : Int32) (x3 : Int32) (l_a : Nat → Int32) (l_b : Nat → Int32) (l_c : Nat → Int32) (l_n : Int32) (m_x : Nat → Int32) (m_y : Nat → Int32) (m_d : Nat → Int32) (m_t : Nat → Int32) (m_v : Nat → Int32) (m_n : Int32) (r_s : Nat → Int32) (r_n : Nat → Int32) (r_k : Int32)  (H : Heap) (locs : List Loc) (ls : Array Slot), va_P G.1 vwCl (w_C G c0 l0 l1 l2 l3 m0 m1 m2 m3 m4 m5 r0 r1 r2 r3 g0 g_e l_a l_b l_c l_n m_x m_y m_d m_t m_v m_n r_s r_n r_w r_k) H → va_D A (w_C G c0 l0 l1 l2 l3 m0 m1 m2 m3 m4 m5 r0 r1 r2 r3 g0 g_e l_a l_b l_c l_n m_x m_y m_d m_t m_v m_n r_s r_n r_w r_k) → va_S A s.heap H locs → lv_has ls 4 [(0, .ref c0), (1, .int x1), (2, .int x2), (3, .int x3)] → fX4_line_b39 N x1 x2 x3 l_a l_b l_c l_n m_x m_y m_d m_t m_v m_n r_s r_n r_k = some v → W p l e ({ frames := 6, cells := 4, slots := 24, locals := 148 } : Room) s m args below meth c H locs 3 18 (wQxi G A below args s (w_C G c0 l0 l1 l2 l3 m0 m1 m2 m3 m4 m5 r0 r1 r2 r3 g0 g_e l_a l_b l_c l_n m_x m_y m_d m_t m_v m_n r_s r_n r_w r_k) v (fun t : Int32 × (Nat → Int32) × (Nat → Int32) × (Nat → Int32) × Int32 × (Nat → Int32) × (Nat → Int32) × (Nat → Int32) × (Nat → Int32) × (Nat → Int32) × Int32 × (Nat → Int32) × (Nat → Int32) × Int32 => (w_C G c0 l0 l1 l2 l3 m0 m1 m2 m3 m4 m5 r0 r1 r2 r3 g0 g_e t.2.1 t.2.2.1 t.2.2.2.1 t.2.2.2.2.1 t.2.2.2.2.2.1 t.2.2.2.2.2.2.1 t.2.2.2.2.2.2.2.1 t.2.2.2.2.2.2.2.2.1 t.2.2.2.2.2.2.2.2.2.1 t.2.2.2.2.2.2.2.2.2.2.1 t.2.2.2.2.2.2.2.2.2.2.2.1 t.2.2.2.2.2.2.2.2.2.2.2.2.1 r_w t.2.2.2.2.2.2.2.2.2.2.2.2.2)) (fun t : Int32 × (Nat → Int32) × (Nat → Int32) × (Nat → Int32) × Int32 × (Nat → Int32) × (Nat → Int32) × (Nat → Int32) × (Nat → Int32) × (Nat → Int32) × Int32 × (Nat → Int32) × (Nat → Int32) × Int32 => t.1) 4 24) (F0 m 39 ls []) := by
    intro x1 x2 x3 l_a l_b l_c l_n m_x m_y m_d m_t m_v m_n r_s r_n r_k H locs ls hP hD hS hl h
    rw [fX4_line_b39.eq_1] at h
    refine lv_aload_n hx hb dX4_line_39 rfl (lv_at hl 0 rfl) ?_
    refine va_get (D := G.1) (ci := 4) (v := .ref l0) (C := RX4) (T := TX4) (N := 4) hx hb hts hinX4 hown hK.1 hP 0 rfl rfl 0 (by decide) lk10 (fun _ h9 => h9) rfl dX4_line_40 ?_
    obtain ⟨u_1254, hc_1255, h⟩ := bd_inv h
    refine wafter_i (wr := [(c0, .inr (4, [.ref l0, .ref m0, .ref r0, .ref g0])), (m0, .inr (2, [.ref m1, .ref m2, .ref m3, .ref m4, .ref m5, .int m_n])), (m1, .inl (G.2.1, 36, .inl m_x)), (m2, .inl (G.2.1, 36, .inl m_y)), (m3, .inl (G.2.1, 36, .inl m_d)), (m4, .inl (G.2.1, 36, .inl m_t)), (m5, .inl (G.2.1, 36, .inl m_v)), (r0, .inr (3, [.ref r1, .ref r2, .ref r3, .int r_k])), (r1, .inl (G.2.1, 46, .inl r_s)), (r2, .inl (G.2.1, 512, .inl r_n)), (r3, .inl (G.2.1, 512, .inl r_w)), (g0, .inr (0, [.long g_e]))]) (w2 := (w_C G c0 l0 l1 l2 l3 m0 m1 m2 m3 m4 m5 r0 r1 r2 r3 g0 g_e l_a l_b l_c l_n m_x m_y m_d m_t m_v m_n r_s r_n r_w r_k)) (va_runV (As := []) (rest := []) ⟨hx, hb, hml, hown, hts⟩ (kX1_isFull (l := l) (G := G) l0 l1 l2 l3 l_a l_b l_c l_n  N u_1254 hc_1255 _) (cwV 0 hts gX4_line_X1_isFull rfl rfl rfl (by decide +kernel) ⟨Nat.le_of_ble_eq_true rfl, Nat.le_of_ble_eq_true rfl⟩) (wPreV hP hD hK [1, 2, 3, 4] rfl rfl (ci := 1) (qb := 1) rfl rfl rfl) rfl rfl hl.1 rfl (lv_room (Nat.le_of_ble_eq_true rfl)) dX4_line_43 ⟨Nat.le_of_ble_eq_true rfl, Nat.le_of_ble_eq_true rfl⟩) hP hD hS hA [1, 2, 3, 4] [0, 5, 6, 7, 8, 9, 10, 11, 12, 13, 14, 15] [0, 12, 13, 14, 15, 1, 2, 3, 4, 5, 6, 7, 8, 9, 10, 11] rfl rfl rfl (by decide) rfl rfl (fun H locs hP hD hS => ?_)
    refine lv_if_ne (tgt := 63) hx hb dX4_line_46 (by decide) (fun c_1256 => ?_) (fun c_1256 => ?_)
    · have h := iq c_1256 h
      obtain rfl := Option.some.inj h
      exact wthrow_i (cls := xISE) (text := "the LINE is there, or there are 9") hx hb hst hown (by decide +kernel) lxISE iniISE hT (by decide +kernel) gwISE xng_ISE xot_ISE hP hD hS (hl.1.trans hml.symm) dX4_line_63 dX4_line_66 dX4_line_67 dX4_line_69 dX4_line_72 hnoh hlocks (Nat.le_of_ble_eq_true rfl) (Nat.le_of_ble_eq_true rfl) (Nat.le_of_ble_eq_true rfl) (Nat.le_of_ble_eq_true rfl) (Nat.le_of_ble_eq_true rfl) (Nat.le_of_ble_eq_true rfl) rfl
    · have h := ip c_1256 h
      refine lv_aload_n hx hb dX4_line_49 rfl (lv_at hl 0 rfl) ?_
      refine va_get (D := G.1) (ci := 4) (v := .ref l0) (C := RX4) (T := TX4) (N := 4) hx hb hts hinX4 hown hK.1 hP 0 rfl rfl 0 (by decide) lk10 (fun _ h9 => h9) rfl dX4_line_50 ?_
      refine lv_iload_n hx hb dX4_line_53 rfl (lv_at hl 1 rfl) ?_
      refine lv_iload_n hx hb dX4_line_54 rfl (lv_at hl 2 rfl) ?_
      refine lv_iload_n hx hb dX4_line_55 rfl (lv_at hl 3 rfl) ?_
      obtain ⟨u_1257, hc_1258, h⟩ := bd_inv h
      refine wafter_i (wr := [(c0, .inr (4, [.ref l0, .ref m0, .ref r0, .ref g0])), (m0, .inr (2, [.ref m1, .ref m2, .ref m3, .ref m4, .ref m5, .int m_n])), (m1, .inl (G.2.1, 36, .inl m_x)), (m2, .inl (G.2.1, 36, .inl m_y)), (m3, .inl (G.2.1, 36, .inl m_d)), (m4, .inl (G.2.1, 36, .inl m_t)), (m5, .inl (G.2.1, 36, .inl m_v)), (r0, .inr (3, [.ref r1, .ref r2, .ref r3, .int r_k])), (r1, .inl (G.2.1, 46, .inl r_s)), (r2, .inl (G.2.1, 512, .inl r_n)), (r3, .inl (G.2.1, 512, .inl r_w)), (g0, .inr (0, [.long g_e]))]) (w2 := (w_C G c0 l0 l1 l2 l3 m0 m1 m2 m3 m4 m5 r0 r1 r2 r3 g0 g_e l_a l_b l_c l_n m_x m_y m_d m_t m_v m_n r_s r_n r_w r_k)) (va_runV (As := [.int x1, .int x2, .int x3]) (rest := []) ⟨hx, hb, hml, hown, hts⟩ (kX1_numberOf (l := l) (G := G) l0 l1 l2 l3 l_a l_b l_c l_n x1 x2 x3 N u_1257 hc_1258 _) (cwV 3 hts gX4_line_X1_numberOf rfl rfl rfl (by decide +kernel) ⟨Nat.le_of_ble_eq_true rfl, Nat.le_of_ble_eq_true rfl⟩) (wPreV hP hD hK [1, 2, 3, 4] rfl rfl (ci := 1) (qb := 1) rfl rfl rfl) rfl rfl hl.1 rfl (lv_room (Nat.le_of_ble_eq_true rfl)) dX4_line_56 ⟨Nat.le_of_ble_eq_true rfl, Nat.le_of_ble_eq_true rfl⟩) hP hD hS hA [1, 2, 3, 4] [0, 5, 6, 7, 8, 9, 10, 11, 12, 13, 14, 15] [0, 12, 13, 14, 15, 1, 2, 3, 4, 5, 6, 7, 8, 9, 10, 11] rfl rfl rfl (by decide) rfl rfl (fun H locs hP hD hS => ?_)
      refine lv_iconst (v := (-1)) hx hb dX4_line_59 (by decide) ?_
      refine lv_icmp_eq (tgt := 73) hx hb dX4_line_60 (by decide) (fun c_1259 => ?_) (fun c_1259 => ?_)
      · have h := ip c_1259 h
        refine lv_aload_n hx hb dX4_line_73 rfl (lv_at hl 0 rfl) ?_
        refine va_get (D := G.1) (ci := 4) (v := .ref l0) (C := RX4) (T := TX4) (N := 4) hx hb hts hinX4 hown hK.1 hP 0 rfl rfl 0 (by decide) lk10 (fun _ h9 => h9) rfl dX4_line_74 ?_
        refine lv_iload_n hx hb dX4_line_77 rfl (lv_at hl 1 rfl) ?_
        refine lv_iload_n hx hb dX4_line_78 rfl (lv_at hl 2 rfl) ?_
        refine lv_iload_n hx hb dX4_line_79 rfl (lv_at hl 3 rfl) ?_
        obtain ⟨u_1260, hc_1261, h⟩ := bd_inv h
        refine wafter_v (wr := [(c0, .inr (4, [.ref l0, .ref m0, .ref r0, .ref g0])), (m0, .inr (2, [.ref m1, .ref m2, .ref m3, .ref m4, .ref m5, .int m_n])), (m1, .inl (G.2.1, 36, .inl m_x)), (m2, .inl (G.2.1, 36, .inl m_y)), (m3, .inl (G.2.1, 36, .inl m_d)), (m4, .inl (G.2.1, 36, .inl m_t)), (m5, .inl (G.2.1, 36, .inl m_v)), (r0, .inr (3, [.ref r1, .ref r2, .ref r3, .int r_k])), (r1, .inl (G.2.1, 46, .inl r_s)), (r2, .inl (G.2.1, 512, .inl r_n)), (r3, .inl (G.2.1, 512, .inl r_w)), (g0, .inr (0, [.long g_e]))]) (w2 := (w_C G c0 l0 l1 l2 l3 m0 m1 m2 m3 m4 m5 r0 r1 r2 r3 g0 g_e u_1260.1 u_1260.2.1 u_1260.2.2.1 u_1260.2.2.2 m_x m_y m_d m_t m_v m_n r_s r_n r_w r_k)) (va_runV (As := [.int x1, .int x2, .int x3]) (rest := []) ⟨hx, hb, hml, hown, hts⟩ (kX1_append (l := l) (G := G) l0 l1 l2 l3 l_a l_b l_c l_n x1 x2 x3 N u_1260 hc_1261 _) (cwV 3 hts gX4_line_X1_append rfl rfl rfl (by decide +kernel) ⟨Nat.le_of_ble_eq_true rfl, Nat.le_of_ble_eq_true rfl⟩) (wPreV hP hD hK [1, 2, 3, 4] rfl rfl (ci := 1) (qb := 1) rfl rfl rfl) rfl rfl hl.1 rfl (lv_room (Nat.le_of_ble_eq_true rfl)) dX4_line_80 ⟨Nat.le_of_ble_eq_true rfl, Nat.le_of_ble_eq_true rfl⟩) hP hD hS hA [1, 2, 3, 4] [0, 5, 6, 7, 8, 9, 10, 11, 12, 13, 14, 15] [0, 12, 13, 14, 15, 1, 2, 3, 4, 5, 6, 7, 8, 9, 10, 11] rfl rfl rfl (by decide) rfl rfl (fun H locs hP hD hS => ?_)
        refine lv_aload_n hx hb dX4_line_83 rfl (lv_at hl 0 rfl) ?_
        obtain ⟨u_1262, hc_1263, h⟩ := bd_inv h
        refine wafter_v (wr := []) (w2 := (w_C G c0 l0 l1 l2 l3 m0 m1 m2 m3 m4 m5 r0 r1 r2 r3 g0 g_e u_1260.1 u_1260.2.1 u_1260.2.2.1 u_1260.2.2.2 u_1262.1 u_1262.2.1 u_1262.2.2.1 u_1262.2.2.2.1 u_1262.2.2.2.2.1 u_1262.2.2.2.2.2.1 u_1262.2.2.2.2.2.2.1 u_1262.2.2.2.2.2.2.2.1 r_w u_1262.2.2.2.2.2.2.2.2)) (va_runV (As := []) (rest := []) ⟨hx, hb, hml, hown, hts⟩ (kX4_lookAnew (l := l) (G := G) c0 l0 l1 l2 l3 m0 m1 m2 m3 m4 m5 r0 r1 r2 r3 g0 g_e u_1260.1 u_1260.2.1 u_1260.2.2.1 u_1260.2.2.2 m_x m_y m_d m_t m_v m_n r_s r_n r_w r_k  N u_1262 hc_1263 _) (cwV 0 hts gX4_line_X4_lookAnew rfl rfl rfl (by decide +kernel) ⟨Nat.le_of_ble_eq_true rfl, Nat.le_of_ble_eq_true rfl⟩) (wPreV hP hD hK [0, 1, 2, 3, 4, 5, 6, 7, 8, 9, 10, 11, 12, 13, 14, 15] rfl rfl (ci := 4) (qb := 0) rfl rfl rfl) rfl rfl hl.1 rfl (lv_room (Nat.le_of_ble_eq_true rfl)) dX4_line_84 ⟨Nat.le_of_ble_eq_true rfl, Nat.le_of_ble_eq_true rfl⟩) hP hD hS hA [0, 1, 2, 3, 4, 5, 6, 7, 8, 9, 10, 11, 12, 13, 14, 15] [] [0, 1, 2, 3, 4, 5, 6, 7, 8, 9, 10, 11, 12, 13, 14, 15] rfl rfl rfl (by decide) rfl rfl (fun H locs hP hD hS => ?_)
        refine lv_aload_n hx hb dX4_line_87 rfl (lv_at hl 0 rfl) ?_
        refine va_get (D := G.1) (ci := 4) (v := .ref l0) (C := RX4) (T := TX4) (N := 4) hx hb hts hinX4 hown hK.1 hP 0 rfl rfl 0 (by decide) lk10 (fun _ h9 => h9) rfl dX4_line_88 ?_
        obtain ⟨u_1264, hc_1265, h⟩ := bd_inv h
        refine wafter_i (wr := [(c0, .inr (4, [.ref l0, .ref m0, .ref r0, .ref g0])), (m0, .inr (2, [.ref m1, .ref m2, .ref m3, .ref m4, .ref m5, .int u_1262.2.2.2.2.2.1])), (m1, .inl (G.2.1, 36, .inl u_1262.1)), (m2, .inl (G.2.1, 36, .inl u_1262.2.1)), (m3, .inl (G.2.1, 36, .inl u_1262.2.2.1)), (m4, .inl (G.2.1, 36, .inl u_1262.2.2.2.1)), (m5, .inl (G.2.1, 36, .inl u_1262.2.2.2.2.1)), (r0, .inr (3, [.ref r1, .ref r2, .ref r3, .int u_1262.2.2.2.2.2.2.2.2])), (r1, .inl (G.2.1, 46, .inl u_1262.2.2.2.2.2.2.1)), (r2, .inl (G.2.1, 512, .inl u_1262.2.2.2.2.2.2.2.1)), (r3, .inl (G.2.1, 512, .inl r_w)), (g0, .inr (0, [.long g_e]))]) (w2 := (w_C G c0 l0 l1 l2 l3 m0 m1 m2 m3 m4 m5 r0 r1 r2 r3 g0 g_e u_1260.1 u_1260.2.1 u_1260.2.2.1 u_1260.2.2.2 u_1262.1 u_1262.2.1 u_1262.2.2.1 u_1262.2.2.2.1 u_1262.2.2.2.2.1 u_1262.2.2.2.2.2.1 u_1262.2.2.2.2.2.2.1 u_1262.2.2.2.2.2.2.2.1 r_w u_1262.2.2.2.2.2.2.2.2)) (va_runV (As := []) (rest := []) ⟨hx, hb, hml, hown, hts⟩ (kX1_count (l := l) (G := G) l0 l1 l2 l3 u_1260.1 u_1260.2.1 u_1260.2.2.1 u_1260.2.2.2  N u_1264 hc_1265 _) (cwV 0 hts gX4_line_X1_count rfl rfl rfl (by decide +kernel) ⟨Nat.le_of_ble_eq_true rfl, Nat.le_of_ble_eq_true rfl⟩) (wPreV hP hD hK [1, 2, 3, 4] rfl rfl (ci := 1) (qb := 1) rfl rfl rfl) rfl rfl hl.1 rfl (lv_room (Nat.le_of_ble_eq_true rfl)) dX4_line_91 ⟨Nat.le_of_ble_eq_true rfl, Nat.le_of_ble_eq_true rfl⟩) hP hD hS hA [1, 2, 3, 4] [0, 5, 6, 7, 8, 9, 10, 11, 12, 13, 14, 15] [0, 12, 13, 14, 15, 1, 2, 3, 4, 5, 6, 7, 8, 9, 10, 11] rfl rfl rfl (by decide) rfl rfl (fun H locs hP hD hS => ?_)
        refine lv_iconst (v := 1) hx hb dX4_line_94 (by decide) ?_
        refine lv_isub hx hb dX4_line_95 ?_
        obtain rfl := Option.some.inj h
        exact wrxi (ty := .int) (t0 := ((u_1264 - 1), u_1260.1, u_1260.2.1, u_1260.2.2.1, u_1260.2.2.2, u_1262.1, u_1262.2.1, u_1262.2.2.1, u_1262.2.2.2.1, u_1262.2.2.2.2.1, u_1262.2.2.2.2.2.1, u_1262.2.2.2.2.2.2.1, u_1262.2.2.2.2.2.2.2.1, u_1262.2.2.2.2.2.2.2.2)) hx hb hr hlocks hP hD hS (Nat.le_of_ble_eq_true rfl) (Nat.le_of_ble_eq_true rfl) rfl rfl dX4_line_96
      · have h := iq c_1259 h
        obtain rfl := Option.some.inj h
        exact wthrow_i (cls := xISE) (text := "the LINE is there, or there are 9") hx hb hst hown (by decide +kernel) lxISE iniISE hT (by decide +kernel) gwISE xng_ISE xot_ISE hP hD hS (hl.1.trans hml.symm) dX4_line_63 dX4_line_66 dX4_line_67 dX4_line_69 dX4_line_72 hnoh hlocks (Nat.le_of_ble_eq_true rfl) (Nat.le_of_ble_eq_true rfl) (Nat.le_of_ble_eq_true rfl) (Nat.le_of_ble_eq_true rfl) (Nat.le_of_ble_eq_true rfl) (Nat.le_of_ble_eq_true rfl) rfl
  rw [fX4_line.eq_1] at h
  refine lv_iload_n hx hb dX4_line_0 rfl (lv_at hl 1 rfl) ?_
  obtain ⟨u_1266, hc_1267, h⟩ := bd_inv h
  refine wafter_i (wr := (w_C G c0 l0 l1 l2 l3 m0 m1 m2 m3 m4 m5 r0 r1 r2 r3 g0 g_e l_a l_b l_c l_n m_x m_y m_d m_t m_v m_n r_s r_n r_w r_k)) (w2 := (w_C G c0 l0 l1 l2 l3 m0 m1 m2 m3 m4 m5 r0 r1 r2 r3 g0 g_e l_a l_b l_c l_n m_x m_y m_d m_t m_v m_n r_s r_n r_w r_k)) (va_runS (As := [.int x1]) (rest := []) ⟨hx, hb, hml, hown, hts⟩ (kX4_isTooFar (l := l) (G := G)   x1 N u_1266 hc_1267 _) (va_cwS 1 hts gX4_line_X4_isTooFar rfl rfl rfl (by decide +kernel) ⟨Nat.le_of_ble_eq_true rfl, Nat.le_of_ble_eq_true rfl⟩) (wPreS hP hD hK [] rfl rfl) rfl rfl hl.1 rfl (lv_room (Nat.le_of_ble_eq_true rfl)) dX4_line_1 ⟨Nat.le_of_ble_eq_true rfl, Nat.le_of_ble_eq_true rfl⟩) hP hD hS hA [] [0, 1, 2, 3, 4, 5, 6, 7, 8, 9, 10, 11, 12, 13, 14, 15] [0, 1, 2, 3, 4, 5, 6, 7, 8, 9, 10, 11, 12, 13, 14, 15] rfl rfl rfl (by decide) rfl rfl (fun H locs hP hD hS => ?_)
  refine lv_if_ne (tgt := 29) hx hb dX4_line_4 (by decide) (fun c_1268 => ?_) (fun c_1268 => ?_)
  · have h := iq c_1268 h
    obtain rfl := Option.some.inj h
    exact wthrow_i (cls := xIAE) (text := "a, b or c is out of range, or a and b are both 0") hx hb hst hown (by decide +kernel) lxIAE iniIAE hT (by decide +kernel) gwIAE xng_IAE xot_IAE hP hD hS (hl.1.trans hml.symm) dX4_line_29 dX4_line_32 dX4_line_33 dX4_line_35 dX4_line_38 hnoh hlocks (Nat.le_of_ble_eq_true rfl) (Nat.le_of_ble_eq_true rfl) (Nat.le_of_ble_eq_true rfl) (Nat.le_of_ble_eq_true rfl) (Nat.le_of_ble_eq_true rfl) (Nat.le_of_ble_eq_true rfl) rfl
  · have h := ip c_1268 h
    refine lv_iload_n hx hb dX4_line_7 rfl (lv_at hl 2 rfl) ?_
    obtain ⟨u_1269, hc_1270, h⟩ := bd_inv h
    refine wafter_i (wr := (w_C G c0 l0 l1 l2 l3 m0 m1 m2 m3 m4 m5 r0 r1 r2 r3 g0 g_e l_a l_b l_c l_n m_x m_y m_d m_t m_v m_n r_s r_n r_w r_k)) (w2 := (w_C G c0 l0 l1 l2 l3 m0 m1 m2 m3 m4 m5 r0 r1 r2 r3 g0 g_e l_a l_b l_c l_n m_x m_y m_d m_t m_v m_n r_s r_n r_w r_k)) (va_runS (As := [.int x2]) (rest := []) ⟨hx, hb, hml, hown, hts⟩ (kX4_isTooFar (l := l) (G := G)   x2 N u_1269 hc_1270 _) (va_cwS 1 hts gX4_line_X4_isTooFar rfl rfl rfl (by decide +kernel) ⟨Nat.le_of_ble_eq_true rfl, Nat.le_of_ble_eq_true rfl⟩) (wPreS hP hD hK [] rfl rfl) rfl rfl hl.1 rfl (lv_room (Nat.le_of_ble_eq_true rfl)) dX4_line_8 ⟨Nat.le_of_ble_eq_true rfl, Nat.le_of_ble_eq_true rfl⟩) hP hD hS hA [] [0, 1, 2, 3, 4, 5, 6, 7, 8, 9, 10, 11, 12, 13, 14, 15] [0, 1, 2, 3, 4, 5, 6, 7, 8, 9, 10, 11, 12, 13, 14, 15] rfl rfl rfl (by decide) rfl rfl (fun H locs hP hD hS => ?_)
    refine lv_if_ne (tgt := 29) hx hb dX4_line_11 (by decide) (fun c_1271 => ?_) (fun c_1271 => ?_)
    · have h := iq c_1271 h
      obtain rfl := Option.some.inj h
      exact wthrow_i (cls := xIAE) (text := "a, b or c is out of range, or a and b are both 0") hx hb hst hown (by decide +kernel) lxIAE iniIAE hT (by decide +kernel) gwIAE xng_IAE xot_IAE hP hD hS (hl.1.trans hml.symm) dX4_line_29 dX4_line_32 dX4_line_33 dX4_line_35 dX4_line_38 hnoh hlocks (Nat.le_of_ble_eq_true rfl) (Nat.le_of_ble_eq_true rfl) (Nat.le_of_ble_eq_true rfl) (Nat.le_of_ble_eq_true rfl) (Nat.le_of_ble_eq_true rfl) (Nat.le_of_ble_eq_true rfl) rfl
    · have h := ip c_1271 h
      refine lv_iload_n hx hb dX4_line_14 rfl (lv_at hl 3 rfl) ?_
      obtain ⟨u_1272, hc_1273, h⟩ := bd_inv h
      refine wafter_i (wr := (w_C G c0 l0 l1 l2 l3 m0 m1 m2 m3 m4 m5 r0 r1 r2 r3 g0 g_e l_a l_b l_c l_n m_x m_y m_d m_t m_v m_n r_s r_n r_w r_k)) (w2 := (w_C G c0 l0 l1 l2 l3 m0 m1 m2 m3 m4 m5 r0 r1 r2 r3 g0 g_e l_a l_b l_c l_n m_x m_y m_d m_t m_v m_n r_s r_n r_w r_k)) (va_runS (As := [.int x3]) (rest := []) ⟨hx, hb, hml, hown, hts⟩ (kX4_isTooFar (l := l) (G := G)   x3 N u_1272 hc_1273 _) (va_cwS 1 hts gX4_line_X4_isTooFar rfl rfl rfl (by decide +kernel) ⟨Nat.le_of_ble_eq_true rfl, Nat.le_of_ble_eq_true rfl⟩) (wPreS hP hD hK [] rfl rfl) rfl rfl hl.1 rfl (lv_room (Nat.le_of_ble_eq_true rfl)) dX4_line_15 ⟨Nat.le_of_ble_eq_true rfl, Nat.le_of_ble_eq_true rfl⟩) hP hD hS hA [] [0, 1, 2, 3, 4, 5, 6, 7, 8, 9, 10, 11, 12, 13, 14, 15] [0, 1, 2, 3, 4, 5, 6, 7, 8, 9, 10, 11, 12, 13, 14, 15] rfl rfl rfl (by decide) rfl rfl (fun H locs hP hD hS => ?_)
      refine lv_if_ne (tgt := 29) hx hb dX4_line_18 (by decide) (fun c_1274 => ?_) (fun c_1274 => ?_)
      · have h := iq c_1274 h
        obtain rfl := Option.some.inj h
        exact wthrow_i (cls := xIAE) (text := "a, b or c is out of range, or a and b are both 0") hx hb hst hown (by decide +kernel) lxIAE iniIAE hT (by decide +kernel) gwIAE xng_IAE xot_IAE hP hD hS (hl.1.trans hml.symm) dX4_line_29 dX4_line_32 dX4_line_33 dX4_line_35 dX4_line_38 hnoh hlocks (Nat.le_of_ble_eq_true rfl) (Nat.le_of_ble_eq_true rfl) (Nat.le_of_ble_eq_true rfl) (Nat.le_of_ble_eq_true rfl) (Nat.le_of_ble_eq_true rfl) (Nat.le_of_ble_eq_true rfl) rfl
      · have h := ip c_1274 h
        refine lv_iload_n hx hb dX4_line_21 rfl (lv_at hl 1 rfl) ?_
        refine lv_if_ne (tgt := 39) hx hb dX4_line_22 (by decide) (fun c_1275 => ?_) (fun c_1275 => ?_)
        · have h := iq c_1275 h
          refine W.widen (k := 3) (n := 18) (Nat.le_of_ble_eq_true rfl) (Nat.le_of_ble_eq_true rfl) ?_
          exact w_39  _ _ _ _ _ _ _ _ _ _ _ _ _ _ _ _  _ _ _  hP hD hS (lv_sub hl [0, 1, 2, 3] rfl) h
        · have h := ip c_1275 h
          refine lv_iload_n hx hb dX4_line_25 rfl (lv_at hl 2 rfl) ?_
          refine lv_if_ne (tgt := 39) hx hb dX4_line_26 (by decide) (fun c_1276 => ?_) (fun c_1276 => ?_)
          · have h := iq c_1276 h
            refine W.widen (k := 3) (n := 18) (Nat.le_of_ble_eq_true rfl) (Nat.le_of_ble_eq_true rfl) ?_
            exact w_39  _ _ _ _ _ _ _ _ _ _ _ _ _ _ _ _  _ _ _  hP hD hS (lv_sub hl [0, 1, 2, 3] rfl) h
          · have h := ip c_1276 h
            obtain rfl := Option.some.inj h
            exact wthrow_i (cls := xIAE) (text := "a, b or c is out of range, or a and b are both 0") hx hb hst hown (by decide +kernel) lxIAE iniIAE hT (by decide +kernel) gwIAE xng_IAE xot_IAE hP hD hS (hl.1.trans hml.symm) dX4_line_29 dX4_line_32 dX4_line_33 dX4_line_35 dX4_line_38 hnoh hlocks (Nat.le_of_ble_eq_true rfl) (Nat.le_of_ble_eq_true rfl) (Nat.le_of_ble_eq_true rfl) (Nat.le_of_ble_eq_true rfl) (Nat.le_of_ble_eq_true rfl) (Nat.le_of_ble_eq_true rfl) rfl
def fX4_checkLine (N : Nat) (l_n : Int32) (x1 : Int32) : Option (String ⊕ (Unit)) := if x1 < 0 then some (.inl xIOO) else bd (fX1_count N l_n) (fun u_1278 => if x1 < u_1278 then some (.inr ()) else some (.inl xIOO))
set_option maxHeartbeats 4000000 in
set_option maxRecDepth 100000 in
theorem kX4_checkLine {l : Launch} (hst : l.stackTraces = false) {G : wG} (c0 l0 l1 l2 l3 m0 m1 m2 m3 m4 m5 r0 r1 r2 r3 g0 : Nat) (g_e : Int64) (l_a : Nat → Int32) (l_b : Nat → Int32) (l_c : Nat → Int32) (l_n : Int32) (m_x : Nat → Int32) (m_y : Nat → Int32) (m_d : Nat → Int32) (m_t : Nat → Int32) (m_v : Nat → Int32) (m_n : Int32) (r_s : Nat → Int32) (r_n : Nat → Int32) (r_w : Nat → Int32) (r_k : Int32) (x1 : Int32) (N : Nat) (v : String ⊕ (Unit)) (h : fX4_checkLine N l_n x1 = some v) : wXv l G yX4_checkLine wsX4_checkLine ({ frames := 6, cells := 1, slots := 6, locals := 100 } : Room) [.ref c0, .int x1] (w_C G c0 l0 l1 l2 l3 m0 m1 m2 m3 m4 m5 r0 r1 r2 r3 g0 g_e l_a l_b l_c l_n m_x m_y m_d m_t m_v m_n r_s r_n r_w r_k) v (fun t : Unit => (w_C G c0 l0 l1 l2 l3 m0 m1 m2 m3 m4 m5 r0 r1 r2 r3 g0 g_e l_a l_b l_c l_n m_x m_y m_d m_t m_v m_n r_s r_n r_w r_k)) 1 6 := by
  refine wXv.mk (cc := cX4_checkLine) (maxL := 2) (by decide) rfl (Nat.le_of_ble_eq_true rfl) ?_
  intro p e s m below meth c A ls hx hb hml hr hlocks hts hown hK hA hP hD hT hnoh hl
  have hx : p.tables.exec = Jvm.exec := hx
  have hown : s.vm.findClass RX4 = some m.cls := hown
  have hinX4 : ∀ w ∈ wsX40, w ∈ wsX4_checkLine := by decide +kernel
  have lk10 := hts (.fieldLink RX4 10 "Chamberwright" "lines" "LChamberwright$Lines;") (by decide +kernel)
  have lxIOO := hts (.classLink RX4 178 xIOO) (by decide +kernel)
  have iniIOO := hts (.initialized xIOO) (by decide +kernel)
  have gwIOO : ∀ w ∈ (vx_atS RX4 182 xIOO xNms).filter goodWord, w.before _ s = true := fun w hw => hts w ((by decide +kernel : ∀ w ∈ (vx_atS RX4 182 xIOO xNms).filter goodWord, w ∈ wsX4_checkLine) w hw)
  have hS : va_S A s.heap s.heap [] := va_S.rf
  have hP : va_P G.1 vwCl (w_C G c0 l0 l1 l2 l3 m0 m1 m2 m3 m4 m5 r0 r1 r2 r3 g0 g_e l_a l_b l_c l_n m_x m_y m_d m_t m_v m_n r_s r_n r_w r_k) s.heap := hP
  have hD : va_D A (w_C G c0 l0 l1 l2 l3 m0 m1 m2 m3 m4 m5 r0 r1 r2 r3 g0 g_e l_a l_b l_c l_n m_x m_y m_d m_t m_v m_n r_s r_n r_w r_k) := hD
  have hl : lv_has ls 2 [(0, .ref c0), (1, .int x1)] := hl
  obtain ⟨args, hargs⟩ : ∃ z : Array Value, z = ([.ref c0, .int x1] : List Value).toArray := ⟨_, rfl⟩
  rw [← hargs]
  rw [← hargs] at hts
  rw [← hargs] at lxIOO iniIOO gwIOO
  rw [fX4_checkLine.eq_1] at h
  refine lv_iload_n hx hb dX4_checkLine_0 rfl (lv_at hl 1 rfl) ?_
  refine lv_if_lt (tgt := 15) hx hb dX4_checkLine_1 (by decide) (fun c_1277 => ?_) (fun c_1277 => ?_)
  · have h := ip c_1277 h
    obtain rfl := Option.some.inj h
    exact wthrow_v (cls := xIOO) (text := "there is no such LINE") hx hb hst hown (by decide +kernel) lxIOO iniIOO hT (by decide +kernel) gwIOO xng_IOO xot_IOO hP hD hS (hl.1.trans hml.symm) dX4_checkLine_15 dX4_checkLine_18 dX4_checkLine_19 dX4_checkLine_21 dX4_checkLine_24 hnoh hlocks (Nat.le_of_ble_eq_true rfl) (Nat.le_of_ble_eq_true rfl) (Nat.le_of_ble_eq_true rfl) (Nat.le_of_ble_eq_true rfl) (Nat.le_of_ble_eq_true rfl) (Nat.le_of_ble_eq_true rfl) rfl
  · have h := iq c_1277 h
    refine lv_iload_n hx hb dX4_checkLine_4 rfl (lv_at hl 1 rfl) ?_
    refine lv_aload_n hx hb dX4_checkLine_5 rfl (lv_at hl 0 rfl) ?_
    refine va_get (D := G.1) (ci := 4) (v := .ref l0) (C := RX4) (T := TX4) (N := 4) hx hb hts hinX4 hown hK.1 hP 0 rfl rfl 0 (by decide) lk10 (fun _ h9 => h9) rfl dX4_checkLine_6 ?_
    obtain ⟨u_1278, hc_1279, h⟩ := bd_inv h
    refine wafter_i (wr := [(c0, .inr (4, [.ref l0, .ref m0, .ref r0, .ref g0])), (m0, .inr (2, [.ref m1, .ref m2, .ref m3, .ref m4, .ref m5, .int m_n])), (m1, .inl (G.2.1, 36, .inl m_x)), (m2, .inl (G.2.1, 36, .inl m_y)), (m3, .inl (G.2.1, 36, .inl m_d)), (m4, .inl (G.2.1, 36, .inl m_t)), (m5, .inl (G.2.1, 36, .inl m_v)), (r0, .inr (3, [.ref r1, .ref r2, .ref r3, .int r_k])), (r1, .inl (G.2.1, 46, .inl r_s)), (r2, .inl (G.2.1, 512, .inl r_n)), (r3, .inl (G.2.1, 512, .inl r_w)), (g0, .inr (0, [.long g_e]))]) (w2 := (w_C G c0 l0 l1 l2 l3 m0 m1 m2 m3 m4 m5 r0 r1 r2 r3 g0 g_e l_a l_b l_c l_n m_x m_y m_d m_t m_v m_n r_s r_n r_w r_k)) (va_runV (As := []) (rest := [.int x1]) ⟨hx, hb, hml, hown, hts⟩ (kX1_count (l := l) (G := G) l0 l1 l2 l3 l_a l_b l_c l_n  N u_1278 hc_1279 _) (cwV 0 hts gX4_checkLine_X1_count rfl rfl rfl (by decide +kernel) ⟨Nat.le_of_ble_eq_true rfl, Nat.le_of_ble_eq_true rfl⟩) (wPreV hP hD hK [1, 2, 3, 4] rfl rfl (ci := 1) (qb := 1) rfl rfl rfl) rfl rfl hl.1 rfl (lv_room (Nat.le_of_ble_eq_true rfl)) dX4_checkLine_9 ⟨Nat.le_of_ble_eq_true rfl, Nat.le_of_ble_eq_true rfl⟩) hP hD hS hA [1, 2, 3, 4] [0, 5, 6, 7, 8, 9, 10, 11, 12, 13, 14, 15] [0, 12, 13, 14, 15, 1, 2, 3, 4, 5, 6, 7, 8, 9, 10, 11] rfl rfl rfl (by decide) rfl rfl (fun H locs hP hD hS => ?_)
    refine lv_icmp_lt (tgt := 25) hx hb dX4_checkLine_12 (by decide) (fun c_1280 => ?_) (fun c_1280 => ?_)
    · have h := ip c_1280 h
      obtain rfl := Option.some.inj h
      exact wrxv (t0 := ()) hx hb hr hlocks hP hD hS (Nat.le_of_ble_eq_true rfl) (Nat.le_of_ble_eq_true rfl) rfl dX4_checkLine_25
    · have h := iq c_1280 h
      obtain rfl := Option.some.inj h
      exact wthrow_v (cls := xIOO) (text := "there is no such LINE") hx hb hst hown (by decide +kernel) lxIOO iniIOO hT (by decide +kernel) gwIOO xng_IOO xot_IOO hP hD hS (hl.1.trans hml.symm) dX4_checkLine_15 dX4_checkLine_18 dX4_checkLine_19 dX4_checkLine_21 dX4_checkLine_24 hnoh hlocks (Nat.le_of_ble_eq_true rfl) (Nat.le_of_ble_eq_true rfl) (Nat.le_of_ble_eq_true rfl) (Nat.le_of_ble_eq_true rfl) (Nat.le_of_ble_eq_true rfl) (Nat.le_of_ble_eq_true rfl) rfl
def fX4_takeAway (N : Nat) (l_a : Nat → Int32) (l_b : Nat → Int32) (l_c : Nat → Int32) (l_n : Int32) (m_x : Nat → Int32) (m_y : Nat → Int32) (m_d : Nat → Int32) (m_t : Nat → Int32) (m_v : Nat → Int32) (m_n : Int32) (r_s : Nat → Int32) (r_n : Nat → Int32) (r_k : Int32) (x1 : Int32) : Option (String ⊕ (Int32 × (Nat → Int32) × (Nat → Int32) × (Nat → Int32) × Int32 × (Nat → Int32) × (Nat → Int32) × (Nat → Int32) × (Nat → Int32) × (Nat → Int32) × Int32 × (Nat → Int32) × (Nat → Int32) × Int32)) := bdx (fX4_checkLine N l_n x1) (fun u_1281 => bd (fX1_remove N l_a l_b l_c l_n x1) (fun u_1283 => bd (fX4_lookAnew N u_1283.1 u_1283.2.1 u_1283.2.2.1 u_1283.2.2.2 m_x m_y m_d m_t m_v m_n r_s r_n r_k) (fun u_1285 => bd (fX1_count N u_1283.2.2.2) (fun u_1287 => some (.inr (u_1287, u_1283.1, u_1283.2.1, u_1283.2.2.1, u_1283.2.2.2, u_1285.1, u_1285.2.1, u_1285.2.2.1, u_1285.2.2.2.1, u_1285.2.2.2.2.1, u_1285.2.2.2.2.2.1, u_1285.2.2.2.2.2.2.1, u_1285.2.2.2.2.2.2.2.1, u_1285.2.2.2.2.2.2.2.2))))))
set_option maxHeartbeats 4000000 in
set_option maxRecDepth 100000 in
theorem kX4_takeAway {l : Launch} (hst : l.stackTraces = false) {G : wG} (c0 l0 l1 l2 l3 m0 m1 m2 m3 m4 m5 r0 r1 r2 r3 g0 : Nat) (g_e : Int64) (l_a : Nat → Int32) (l_b : Nat → Int32) (l_c : Nat → Int32) (l_n : Int32) (m_x : Nat → Int32) (m_y : Nat → Int32) (m_d : Nat → Int32) (m_t : Nat → Int32) (m_v : Nat → Int32) (m_n : Int32) (r_s : Nat → Int32) (r_n : Nat → Int32) (r_w : Nat → Int32) (r_k : Int32) (x1 : Int32) (N : Nat) (v : String ⊕ (Int32 × (Nat → Int32) × (Nat → Int32) × (Nat → Int32) × Int32 × (Nat → Int32) × (Nat → Int32) × (Nat → Int32) × (Nat → Int32) × (Nat → Int32) × Int32 × (Nat → Int32) × (Nat → Int32) × Int32)) (h : fX4_takeAway N l_a l_b l_c l_n m_x m_y m_d m_t m_v m_n r_s r_n r_k x1 = some v) : wXi l G yX4_takeAway wsX4_takeAway ({ frames := 7, cells := 4, slots := 24, locals := 148 } : Room) [.ref c0, .int x1] (w_C G c0 l0 l1 l2 l3 m0 m1 m2 m3 m4 m5 r0 r1 r2 r3 g0 g_e l_a l_b l_c l_n m_x m_y m_d m_t m_v m_n r_s r_n r_w r_k) v (fun t : Int32 × (Nat → Int32) × (Nat → Int32) × (Nat → Int32) × Int32 × (Nat → Int32) × (Nat → Int32) × (Nat → Int32) × (Nat → Int32) × (Nat → Int32) × Int32 × (Nat → Int32) × (Nat → Int32) × Int32 => (w_C G c0 l0 l1 l2 l3 m0 m1 m2 m3 m4 m5 r0 r1 r2 r3 g0 g_e t.2.1 t.2.2.1 t.2.2.2.1 t.2.2.2.2.1 t.2.2.2.2.2.1 t.2.2.2.2.2.2.1 t.2.2.2.2.2.2.2.1 t.2.2.2.2.2.2.2.2.1 t.2.2.2.2.2.2.2.2.2.1 t.2.2.2.2.2.2.2.2.2.2.1 t.2.2.2.2.2.2.2.2.2.2.2.1 t.2.2.2.2.2.2.2.2.2.2.2.2.1 r_w t.2.2.2.2.2.2.2.2.2.2.2.2.2)) (fun t : Int32 × (Nat → Int32) × (Nat → Int32) × (Nat → Int32) × Int32 × (Nat → Int32) × (Nat → Int32) × (Nat → Int32) × (Nat → Int32) × (Nat → Int32) × Int32 × (Nat → Int32) × (Nat → Int32) × Int32 => t.1) 4 24 := by
  refine wXi.mk (cc := cX4_takeAway) (maxL := 2) (ty := .int) (by decide) rfl (Nat.le_of_ble_eq_true rfl) ?_
  intro p e s m below meth c A ls hx hb hml hr hlocks hts hown hK hA hP hD hT hnoh hl
  have hx : p.tables.exec = Jvm.exec := hx
  have hown : s.vm.findClass RX4 = some m.cls := hown
  have hinX4 : ∀ w ∈ wsX40, w ∈ wsX4_takeAway := by decide +kernel
  have lk10 := hts (.fieldLink RX4 10 "Chamberwright" "lines" "LChamberwright$Lines;") (by decide +kernel)
  have hS : va_S A s.heap s.heap [] := va_S.rf
  have hP : va_P G.1 vwCl (w_C G c0 l0 l1 l2 l3 m0 m1 m2 m3 m4 m5 r0 r1 r2 r3 g0 g_e l_a l_b l_c l_n m_x m_y m_d m_t m_v m_n r_s r_n r_w r_k) s.heap := hP
  have hD : va_D A (w_C G c0 l0 l1 l2 l3 m0 m1 m2 m3 m4 m5 r0 r1 r2 r3 g0 g_e l_a l_b l_c l_n m_x m_y m_d m_t m_v m_n r_s r_n r_w r_k) := hD
  have hl : lv_has ls 2 [(0, .ref c0), (1, .int x1)] := hl
  obtain ⟨args, hargs⟩ : ∃ z : Array Value, z = ([.ref c0, .int x1] : List Value).toArray := ⟨_, rfl⟩
  rw [← hargs]
  rw [← hargs] at hts
  rw [fX4_takeAway.eq_1] at h
  refine lv_aload_n hx hb dX4_takeAway_0 rfl (lv_at hl 0 rfl) ?_
  refine lv_iload_n hx hb dX4_takeAway_1 rfl (lv_at hl 1 rfl) ?_
  obtain ⟨x_u_1281, hc_1282, hx_u_1281, h⟩ := bdx_inv h
  refine wafterx_v (wr := []) (vx_runV (As := [.int x1]) (rest := []) ⟨hx, hb, hml, hown, hts⟩ (kX4_checkLine (l := l) hst (G := G) c0 l0 l1 l2 l3 m0 m1 m2 m3 m4 m5 r0 r1 r2 r3 g0 g_e l_a l_b l_c l_n m_x m_y m_d m_t m_v m_n r_s r_n r_w r_k x1 N x_u_1281 hc_1282 _) (cwV 1 hts gX4_takeAway_X4_checkLine rfl rfl rfl (by decide +kernel) ⟨Nat.le_of_ble_eq_true rfl, Nat.le_of_ble_eq_true rfl⟩) (wPreVX hP hD hK hS hA hT [0, 1, 2, 3, 4, 5, 6, 7, 8, 9, 10, 11, 12, 13, 14, 15] rfl rfl (ci := 4) (qb := 0) rfl rfl rfl) rfl rfl hl.1 rfl (lv_room (Nat.le_of_ble_eq_true rfl)) dX4_takeAway_2 ⟨(Nat.le_of_ble_eq_true rfl), (Nat.le_of_ble_eq_true rfl)⟩) hP hD hS hA [0, 1, 2, 3, 4, 5, 6, 7, 8, 9, 10, 11, 12, 13, 14, 15] [] [0, 1, 2, 3, 4, 5, 6, 7, 8, 9, 10, 11, 12, 13, 14, 15] rfl rfl rfl (by decide) rfl rfl (fun E ce q9 H locs he hP hD hS hce hcv hcl => wpass_i hnoh hlocks hP hD hS hce hcv hcl (hx_u_1281 E he) (Nat.le_of_ble_eq_true rfl) (Nat.le_of_ble_eq_true rfl)) (fun u_1281 H locs hu hP hD hS => ?_)
  have h := h u_1281 hu
  have hP : va_P G.1 vwCl (w_C G c0 l0 l1 l2 l3 m0 m1 m2 m3 m4 m5 r0 r1 r2 r3 g0 g_e l_a l_b l_c l_n m_x m_y m_d m_t m_v m_n r_s r_n r_w r_k) H := hP.sub [0, 1, 2, 3, 4, 5, 6, 7, 8, 9, 10, 11, 12, 13, 14, 15] rfl
  have hD : va_D A (w_C G c0 l0 l1 l2 l3 m0 m1 m2 m3 m4 m5 r0 r1 r2 r3 g0 g_e l_a l_b l_c l_n m_x m_y m_d m_t m_v m_n r_s r_n r_w r_k) := hD.sub [0, 1, 2, 3, 4, 5, 6, 7, 8, 9, 10, 11, 12, 13, 14, 15] rfl rfl
  refine lv_aload_n hx hb dX4_takeAway_5 rfl (lv_at hl 0 rfl) ?_
  refine va_get (D := G.1) (ci := 4) (v := .ref l0) (C := RX4) (T := TX4) (N := 4) hx hb hts hinX4 hown hK.1 hP 0 rfl rfl 0 (by decide) lk10 (fun _ h9 => h9) rfl dX4_takeAway_6 ?_
  refine lv_iload_n hx hb dX4_takeAway_9 rfl (lv_at hl 1 rfl) ?_
  obtain ⟨u_1283, hc_1284, h⟩ := bd_inv h
  refine wafter_v (wr := [(c0, .inr (4, [.ref l0, .ref m0, .ref r0, .ref g0])), (m0, .inr (2, [.ref m1, .ref m2, .ref m3, .ref m4, .ref m5, .int m_n])), (m1, .inl (G.2.1, 36, .inl m_x)), (m2, .inl (G.2.1, 36, .inl m_y)), (m3, .inl (G.2.1, 36, .inl m_d)), (m4, .inl (G.2.1, 36, .inl m_t)), (m5, .inl (G.2.1, 36, .inl m_v)), (r0, .inr (3, [.ref r1, .ref r2, .ref r3, .int r_k])), (r1, .inl (G.2.1, 46, .inl r_s)), (r2, .inl (G.2.1, 512, .inl r_n)), (r3, .inl (G.2.1, 512, .inl r_w)), (g0, .inr (0, [.long g_e]))]) (w2 := (w_C G c0 l0 l1 l2 l3 m0 m1 m2 m3 m4 m5 r0 r1 r2 r3 g0 g_e u_1283.1 u_1283.2.1 u_1283.2.2.1 u_1283.2.2.2 m_x m_y m_d m_t m_v m_n r_s r_n r_w r_k)) (va_runV (As := [.int x1]) (rest := []) ⟨hx, hb, hml, hown, hts⟩ (kX1_remove (l := l) (G := G) l0 l1 l2 l3 l_a l_b l_c l_n x1 N u_1283 hc_1284 _) (cwV 1 hts gX4_takeAway_X1_remove rfl rfl rfl (by decide +kernel) ⟨Nat.le_of_ble_eq_true rfl, Nat.le_of_ble_eq_true rfl⟩) (wPreV hP hD hK [1, 2, 3, 4] rfl rfl (ci := 1) (qb := 1) rfl rfl rfl) rfl rfl hl.1 rfl (lv_room (Nat.le_of_ble_eq_true rfl)) dX4_takeAway_10 ⟨Nat.le_of_ble_eq_true rfl, Nat.le_of_ble_eq_true rfl⟩) hP hD hS hA [1, 2, 3, 4] [0, 5, 6, 7, 8, 9, 10, 11, 12, 13, 14, 15] [0, 12, 13, 14, 15, 1, 2, 3, 4, 5, 6, 7, 8, 9, 10, 11] rfl rfl rfl (by decide) rfl rfl (fun H locs hP hD hS => ?_)
  refine lv_aload_n hx hb dX4_takeAway_13 rfl (lv_at hl 0 rfl) ?_
  obtain ⟨u_1285, hc_1286, h⟩ := bd_inv h
  refine wafter_v (wr := []) (w2 := (w_C G c0 l0 l1 l2 l3 m0 m1 m2 m3 m4 m5 r0 r1 r2 r3 g0 g_e u_1283.1 u_1283.2.1 u_1283.2.2.1 u_1283.2.2.2 u_1285.1 u_1285.2.1 u_1285.2.2.1 u_1285.2.2.2.1 u_1285.2.2.2.2.1 u_1285.2.2.2.2.2.1 u_1285.2.2.2.2.2.2.1 u_1285.2.2.2.2.2.2.2.1 r_w u_1285.2.2.2.2.2.2.2.2)) (va_runV (As := []) (rest := []) ⟨hx, hb, hml, hown, hts⟩ (kX4_lookAnew (l := l) (G := G) c0 l0 l1 l2 l3 m0 m1 m2 m3 m4 m5 r0 r1 r2 r3 g0 g_e u_1283.1 u_1283.2.1 u_1283.2.2.1 u_1283.2.2.2 m_x m_y m_d m_t m_v m_n r_s r_n r_w r_k  N u_1285 hc_1286 _) (cwV 0 hts gX4_takeAway_X4_lookAnew rfl rfl rfl (by decide +kernel) ⟨Nat.le_of_ble_eq_true rfl, Nat.le_of_ble_eq_true rfl⟩) (wPreV hP hD hK [0, 1, 2, 3, 4, 5, 6, 7, 8, 9, 10, 11, 12, 13, 14, 15] rfl rfl (ci := 4) (qb := 0) rfl rfl rfl) rfl rfl hl.1 rfl (lv_room (Nat.le_of_ble_eq_true rfl)) dX4_takeAway_14 ⟨Nat.le_of_ble_eq_true rfl, Nat.le_of_ble_eq_true rfl⟩) hP hD hS hA [0, 1, 2, 3, 4, 5, 6, 7, 8, 9, 10, 11, 12, 13, 14, 15] [] [0, 1, 2, 3, 4, 5, 6, 7, 8, 9, 10, 11, 12, 13, 14, 15] rfl rfl rfl (by decide) rfl rfl (fun H locs hP hD hS => ?_)
  refine lv_aload_n hx hb dX4_takeAway_17 rfl (lv_at hl 0 rfl) ?_
  refine va_get (D := G.1) (ci := 4) (v := .ref l0) (C := RX4) (T := TX4) (N := 4) hx hb hts hinX4 hown hK.1 hP 0 rfl rfl 0 (by decide) lk10 (fun _ h9 => h9) rfl dX4_takeAway_18 ?_
  obtain ⟨u_1287, hc_1288, h⟩ := bd_inv h
  refine wafter_i (wr := [(c0, .inr (4, [.ref l0, .ref m0, .ref r0, .ref g0])), (m0, .inr (2, [.ref m1, .ref m2, .ref m3, .ref m4, .ref m5, .int u_1285.2.2.2.2.2.1])), (m1, .inl (G.2.1, 36, .inl u_1285.1)), (m2, .inl (G.2.1, 36, .inl u_1285.2.1)), (m3, .inl (G.2.1, 36, .inl u_1285.2.2.1)), (m4, .inl (G.2.1, 36, .inl u_1285.2.2.2.1)), (m5, .inl (G.2.1, 36, .inl u_1285.2.2.2.2.1)), (r0, .inr (3, [.ref r1, .ref r2, .ref r3, .int u_1285.2.2.2.2.2.2.2.2])), (r1, .inl (G.2.1, 46, .inl u_1285.2.2.2.2.2.2.1)), (r2, .inl (G.2.1, 512, .inl u_1285.2.2.2.2.2.2.2.1)), (r3, .inl (G.2.1, 512, .inl r_w)), (g0, .inr (0, [.long g_e]))]) (w2 := (w_C G c0 l0 l1 l2 l3 m0 m1 m2 m3 m4 m5 r0 r1 r2 r3 g0 g_e u_1283.1 u_1283.2.1 u_1283.2.2.1 u_1283.2.2.2 u_1285.1 u_1285.2.1 u_1285.2.2.1 u_1285.2.2.2.1 u_1285.2.2.2.2.1 u_1285.2.2.2.2.2.1 u_1285.2.2.2.2.2.2.1 u_1285.2.2.2.2.2.2.2.1 r_w u_1285.2.2.2.2.2.2.2.2)) (va_runV (As := []) (rest := []) ⟨hx, hb, hml, hown, hts⟩ (kX1_count (l := l) (G := G) l0 l1 l2 l3 u_1283.1 u_1283.2.1 u_1283.2.2.1 u_1283.2.2.2  N u_1287 hc_1288 _) (cwV 0 hts gX4_takeAway_X1_count rfl rfl rfl (by decide +kernel) ⟨Nat.le_of_ble_eq_true rfl, Nat.le_of_ble_eq_true rfl⟩) (wPreV hP hD hK [1, 2, 3, 4] rfl rfl (ci := 1) (qb := 1) rfl rfl rfl) rfl rfl hl.1 rfl (lv_room (Nat.le_of_ble_eq_true rfl)) dX4_takeAway_21 ⟨Nat.le_of_ble_eq_true rfl, Nat.le_of_ble_eq_true rfl⟩) hP hD hS hA [1, 2, 3, 4] [0, 5, 6, 7, 8, 9, 10, 11, 12, 13, 14, 15] [0, 12, 13, 14, 15, 1, 2, 3, 4, 5, 6, 7, 8, 9, 10, 11] rfl rfl rfl (by decide) rfl rfl (fun H locs hP hD hS => ?_)
  obtain rfl := Option.some.inj h
  exact wrxi (ty := .int) (t0 := (u_1287, u_1283.1, u_1283.2.1, u_1283.2.2.1, u_1283.2.2.2, u_1285.1, u_1285.2.1, u_1285.2.2.1, u_1285.2.2.2.1, u_1285.2.2.2.2.1, u_1285.2.2.2.2.2.1, u_1285.2.2.2.2.2.2.1, u_1285.2.2.2.2.2.2.2.1, u_1285.2.2.2.2.2.2.2.2)) hx hb hr hlocks hP hD hS (Nat.le_of_ble_eq_true rfl) (Nat.le_of_ble_eq_true rfl) rfl rfl dX4_takeAway_24
def fX4_meets (N : Nat) (m_n : Int32) : Option (Int32) := bd (fX2_count N m_n) (fun u_1289 => some u_1289)
set_option maxHeartbeats 4000000 in
set_option maxRecDepth 100000 in
theorem kX4_meets {l : Launch} {G : wG} (c0 l0 l1 l2 l3 m0 m1 m2 m3 m4 m5 r0 r1 r2 r3 g0 : Nat) (g_e : Int64) (l_a : Nat → Int32) (l_b : Nat → Int32) (l_c : Nat → Int32) (l_n : Int32) (m_x : Nat → Int32) (m_y : Nat → Int32) (m_d : Nat → Int32) (m_t : Nat → Int32) (m_v : Nat → Int32) (m_n : Int32) (r_s : Nat → Int32) (r_n : Nat → Int32) (r_w : Nat → Int32) (r_k : Int32) (N : Nat) (v : Int32) (h : fX4_meets N m_n = some v) : wCi l G yX4_meets wsX4_meets ({ frames := 1, cells := 0, slots := 0, locals := 20 } : Room) [.ref c0] (w_C G c0 l0 l1 l2 l3 m0 m1 m2 m3 m4 m5 r0 r1 r2 r3 g0 g_e l_a l_b l_c l_n m_x m_y m_d m_t m_v m_n r_s r_n r_w r_k) (w_C G c0 l0 l1 l2 l3 m0 m1 m2 m3 m4 m5 r0 r1 r2 r3 g0 g_e l_a l_b l_c l_n m_x m_y m_d m_t m_v m_n r_s r_n r_w r_k) 0 0 v := by
  refine wCi.mk (cc := cX4_meets) (maxL := 1) (ty := .int) (by decide) rfl (Nat.le_of_ble_eq_true rfl) ?_
  intro p e s m below meth c A ls hx hb hml hr hlocks hts hown hK hA hP hD hl
  have hx : p.tables.exec = Jvm.exec := hx
  have hown : s.vm.findClass RX4 = some m.cls := hown
  have hinX4 : ∀ w ∈ wsX40, w ∈ wsX4_meets := by decide +kernel
  have lk19 := hts (.fieldLink RX4 19 "Chamberwright" "meets" "LChamberwright$Meets;") (by decide +kernel)
  have hS : va_S A s.heap s.heap [] := va_S.rf
  have hP : va_P G.1 vwCl (w_C G c0 l0 l1 l2 l3 m0 m1 m2 m3 m4 m5 r0 r1 r2 r3 g0 g_e l_a l_b l_c l_n m_x m_y m_d m_t m_v m_n r_s r_n r_w r_k) s.heap := hP
  have hD : va_D A (w_C G c0 l0 l1 l2 l3 m0 m1 m2 m3 m4 m5 r0 r1 r2 r3 g0 g_e l_a l_b l_c l_n m_x m_y m_d m_t m_v m_n r_s r_n r_w r_k) := hD
  have hl : lv_has ls 1 [(0, .ref c0)] := hl
  obtain ⟨args, hargs⟩ : ∃ z : Array Value, z = ([.ref c0] : List Value).toArray := ⟨_, rfl⟩
  rw [← hargs]
  rw [← hargs] at hts
  rw [fX4_meets.eq_1] at h
  refine lv_aload_n hx hb dX4_meets_0 rfl (lv_at hl 0 rfl) ?_
  refine va_get (D := G.1) (ci := 4) (v := .ref m0) (C := RX4) (T := TX4) (N := 4) hx hb hts hinX4 hown hK.1 hP 0 rfl rfl 1 (by decide) lk19 (fun _ h9 => h9) rfl dX4_meets_1 ?_
  obtain ⟨u_1289, hc_1290, h⟩ := bd_inv h
  refine wafter_i (wr := [(c0, .inr (4, [.ref l0, .ref m0, .ref r0, .ref g0])), (l0, .inr (1, [.ref l1, .ref l2, .ref l3, .int l_n])), (l1, .inl (G.2.1, 9, .inl l_a)), (l2, .inl (G.2.1, 9, .inl l_b)), (l3, .inl (G.2.1, 9, .inl l_c)), (r0, .inr (3, [.ref r1, .ref r2, .ref r3, .int r_k])), (r1, .inl (G.2.1, 46, .inl r_s)), (r2, .inl (G.2.1, 512, .inl r_n)), (r3, .inl (G.2.1, 512, .inl r_w)), (g0, .inr (0, [.long g_e]))]) (w2 := (w_C G c0 l0 l1 l2 l3 m0 m1 m2 m3 m4 m5 r0 r1 r2 r3 g0 g_e l_a l_b l_c l_n m_x m_y m_d m_t m_v m_n r_s r_n r_w r_k)) (va_runV (As := []) (rest := []) ⟨hx, hb, hml, hown, hts⟩ (kX2_count (l := l) (G := G) m0 m1 m2 m3 m4 m5 m_x m_y m_d m_t m_v m_n  N u_1289 hc_1290 _) (cwV 0 hts gX4_meets_X2_count rfl rfl rfl (by decide +kernel) ⟨Nat.le_of_ble_eq_true rfl, Nat.le_of_ble_eq_true rfl⟩) (wPreV hP hD hK [5, 6, 7, 8, 9, 10] rfl rfl (ci := 2) (qb := 5) rfl rfl rfl) rfl rfl hl.1 rfl (lv_room (Nat.le_of_ble_eq_true rfl)) dX4_meets_4 ⟨Nat.zero_le _, Nat.zero_le _⟩) hP hD hS hA [5, 6, 7, 8, 9, 10] [0, 1, 2, 3, 4, 11, 12, 13, 14, 15] [0, 1, 2, 3, 4, 10, 11, 12, 13, 14, 15, 5, 6, 7, 8, 9] rfl rfl rfl (by decide) rfl rfl (fun H locs hP hD hS => ?_)
  obtain rfl := Option.some.inj h
  exact wri hx hb hr hlocks hP hD hS (Nat.le_of_ble_eq_true rfl) (Nat.le_of_ble_eq_true rfl) rfl dX4_meets_7
def fX4_checkMeet (N : Nat) (m_n : Int32) (x1 : Int32) : Option (String ⊕ (Unit)) := if x1 < 0 then some (.inl xIOO) else bd (fX2_count N m_n) (fun u_1292 => if x1 < u_1292 then some (.inr ()) else some (.inl xIOO))
set_option maxHeartbeats 4000000 in
set_option maxRecDepth 100000 in
theorem kX4_checkMeet {l : Launch} (hst : l.stackTraces = false) {G : wG} (c0 l0 l1 l2 l3 m0 m1 m2 m3 m4 m5 r0 r1 r2 r3 g0 : Nat) (g_e : Int64) (l_a : Nat → Int32) (l_b : Nat → Int32) (l_c : Nat → Int32) (l_n : Int32) (m_x : Nat → Int32) (m_y : Nat → Int32) (m_d : Nat → Int32) (m_t : Nat → Int32) (m_v : Nat → Int32) (m_n : Int32) (r_s : Nat → Int32) (r_n : Nat → Int32) (r_w : Nat → Int32) (r_k : Int32) (x1 : Int32) (N : Nat) (v : String ⊕ (Unit)) (h : fX4_checkMeet N m_n x1 = some v) : wXv l G yX4_checkMeet wsX4_checkMeet ({ frames := 6, cells := 1, slots := 6, locals := 100 } : Room) [.ref c0, .int x1] (w_C G c0 l0 l1 l2 l3 m0 m1 m2 m3 m4 m5 r0 r1 r2 r3 g0 g_e l_a l_b l_c l_n m_x m_y m_d m_t m_v m_n r_s r_n r_w r_k) v (fun t : Unit => (w_C G c0 l0 l1 l2 l3 m0 m1 m2 m3 m4 m5 r0 r1 r2 r3 g0 g_e l_a l_b l_c l_n m_x m_y m_d m_t m_v m_n r_s r_n r_w r_k)) 1 6 := by
  refine wXv.mk (cc := cX4_checkMeet) (maxL := 2) (by decide) rfl (Nat.le_of_ble_eq_true rfl) ?_
  intro p e s m below meth c A ls hx hb hml hr hlocks hts hown hK hA hP hD hT hnoh hl
  have hx : p.tables.exec = Jvm.exec := hx
  have hown : s.vm.findClass RX4 = some m.cls := hown
  have hinX4 : ∀ w ∈ wsX40, w ∈ wsX4_checkMeet := by decide +kernel
  have lk19 := hts (.fieldLink RX4 19 "Chamberwright" "meets" "LChamberwright$Meets;") (by decide +kernel)
  have lxIOO := hts (.classLink RX4 178 xIOO) (by decide +kernel)
  have iniIOO := hts (.initialized xIOO) (by decide +kernel)
  have gwIOO : ∀ w ∈ (vx_atS RX4 182 xIOO xNms).filter goodWord, w.before _ s = true := fun w hw => hts w ((by decide +kernel : ∀ w ∈ (vx_atS RX4 182 xIOO xNms).filter goodWord, w ∈ wsX4_checkMeet) w hw)
  have hS : va_S A s.heap s.heap [] := va_S.rf
  have hP : va_P G.1 vwCl (w_C G c0 l0 l1 l2 l3 m0 m1 m2 m3 m4 m5 r0 r1 r2 r3 g0 g_e l_a l_b l_c l_n m_x m_y m_d m_t m_v m_n r_s r_n r_w r_k) s.heap := hP
  have hD : va_D A (w_C G c0 l0 l1 l2 l3 m0 m1 m2 m3 m4 m5 r0 r1 r2 r3 g0 g_e l_a l_b l_c l_n m_x m_y m_d m_t m_v m_n r_s r_n r_w r_k) := hD
  have hl : lv_has ls 2 [(0, .ref c0), (1, .int x1)] := hl
  obtain ⟨args, hargs⟩ : ∃ z : Array Value, z = ([.ref c0, .int x1] : List Value).toArray := ⟨_, rfl⟩
  rw [← hargs]
  rw [← hargs] at hts
  rw [← hargs] at lxIOO iniIOO gwIOO
  rw [fX4_checkMeet.eq_1] at h
  refine lv_iload_n hx hb dX4_checkMeet_0 rfl (lv_at hl 1 rfl) ?_
  refine lv_if_lt (tgt := 15) hx hb dX4_checkMeet_1 (by decide) (fun c_1291 => ?_) (fun c_1291 => ?_)
  · have h := ip c_1291 h
    obtain rfl := Option.some.inj h
    exact wthrow_v (cls := xIOO) (text := "there is no such MEET") hx hb hst hown (by decide +kernel) lxIOO iniIOO hT (by decide +kernel) gwIOO xng_IOO xot_IOO hP hD hS (hl.1.trans hml.symm) dX4_checkMeet_15 dX4_checkMeet_18 dX4_checkMeet_19 dX4_checkMeet_21 dX4_checkMeet_24 hnoh hlocks (Nat.le_of_ble_eq_true rfl) (Nat.le_of_ble_eq_true rfl) (Nat.le_of_ble_eq_true rfl) (Nat.le_of_ble_eq_true rfl) (Nat.le_of_ble_eq_true rfl) (Nat.le_of_ble_eq_true rfl) rfl
  · have h := iq c_1291 h
    refine lv_iload_n hx hb dX4_checkMeet_4 rfl (lv_at hl 1 rfl) ?_
    refine lv_aload_n hx hb dX4_checkMeet_5 rfl (lv_at hl 0 rfl) ?_
    refine va_get (D := G.1) (ci := 4) (v := .ref m0) (C := RX4) (T := TX4) (N := 4) hx hb hts hinX4 hown hK.1 hP 0 rfl rfl 1 (by decide) lk19 (fun _ h9 => h9) rfl dX4_checkMeet_6 ?_
    obtain ⟨u_1292, hc_1293, h⟩ := bd_inv h
    refine wafter_i (wr := [(c0, .inr (4, [.ref l0, .ref m0, .ref r0, .ref g0])), (l0, .inr (1, [.ref l1, .ref l2, .ref l3, .int l_n])), (l1, .inl (G.2.1, 9, .inl l_a)), (l2, .inl (G.2.1, 9, .inl l_b)), (l3, .inl (G.2.1, 9, .inl l_c)), (r0, .inr (3, [.ref r1, .ref r2, .ref r3, .int r_k])), (r1, .inl (G.2.1, 46, .inl r_s)), (r2, .inl (G.2.1, 512, .inl r_n)), (r3, .inl (G.2.1, 512, .inl r_w)), (g0, .inr (0, [.long g_e]))]) (w2 := (w_C G c0 l0 l1 l2 l3 m0 m1 m2 m3 m4 m5 r0 r1 r2 r3 g0 g_e l_a l_b l_c l_n m_x m_y m_d m_t m_v m_n r_s r_n r_w r_k)) (va_runV (As := []) (rest := [.int x1]) ⟨hx, hb, hml, hown, hts⟩ (kX2_count (l := l) (G := G) m0 m1 m2 m3 m4 m5 m_x m_y m_d m_t m_v m_n  N u_1292 hc_1293 _) (cwV 0 hts gX4_checkMeet_X2_count rfl rfl rfl (by decide +kernel) ⟨Nat.le_of_ble_eq_true rfl, Nat.le_of_ble_eq_true rfl⟩) (wPreV hP hD hK [5, 6, 7, 8, 9, 10] rfl rfl (ci := 2) (qb := 5) rfl rfl rfl) rfl rfl hl.1 rfl (lv_room (Nat.le_of_ble_eq_true rfl)) dX4_checkMeet_9 ⟨Nat.le_of_ble_eq_true rfl, Nat.le_of_ble_eq_true rfl⟩) hP hD hS hA [5, 6, 7, 8, 9, 10] [0, 1, 2, 3, 4, 11, 12, 13, 14, 15] [0, 1, 2, 3, 4, 10, 11, 12, 13, 14, 15, 5, 6, 7, 8, 9] rfl rfl rfl (by decide) rfl rfl (fun H locs hP hD hS => ?_)
    refine lv_icmp_lt (tgt := 25) hx hb dX4_checkMeet_12 (by decide) (fun c_1294 => ?_) (fun c_1294 => ?_)
    · have h := ip c_1294 h
      obtain rfl := Option.some.inj h
      exact wrxv (t0 := ()) hx hb hr hlocks hP hD hS (Nat.le_of_ble_eq_true rfl) (Nat.le_of_ble_eq_true rfl) rfl dX4_checkMeet_25
    · have h := iq c_1294 h
      obtain rfl := Option.some.inj h
      exact wthrow_v (cls := xIOO) (text := "there is no such MEET") hx hb hst hown (by decide +kernel) lxIOO iniIOO hT (by decide +kernel) gwIOO xng_IOO xot_IOO hP hD hS (hl.1.trans hml.symm) dX4_checkMeet_15 dX4_checkMeet_18 dX4_checkMeet_19 dX4_checkMeet_21 dX4_checkMeet_24 hnoh hlocks (Nat.le_of_ble_eq_true rfl) (Nat.le_of_ble_eq_true rfl) (Nat.le_of_ble_eq_true rfl) (Nat.le_of_ble_eq_true rfl) (Nat.le_of_ble_eq_true rfl) (Nat.le_of_ble_eq_true rfl) rfl
def fX4_meet (N : Nat) (m_x : Nat → Int32) (m_y : Nat → Int32) (m_d : Nat → Int32) (m_t : Nat → Int32) (m_n : Int32) (x1 : Int32) (x2 : Int32) : Option (String ⊕ (Int32)) := bdx (fX4_checkMeet N m_n x1) (fun u_1295 => if x2 = 0 then bd (fX2_x N m_x x1) (fun u_1298 => some (.inr u_1298)) else if x2 = 1 then bd (fX2_y N m_y x1) (fun u_1301 => some (.inr u_1301)) else if x2 = 2 then bd (fX2_d N m_d x1) (fun u_1304 => some (.inr u_1304)) else if x2 = 3 then bd (fX2_through N m_t x1) (fun u_1307 => some (.inr u_1307)) else some (.inl xIAE))
set_option maxHeartbeats 4000000 in
set_option maxRecDepth 100000 in
theorem kX4_meet {l : Launch} (hst : l.stackTraces = false) {G : wG} (c0 l0 l1 l2 l3 m0 m1 m2 m3 m4 m5 r0 r1 r2 r3 g0 : Nat) (g_e : Int64) (l_a : Nat → Int32) (l_b : Nat → Int32) (l_c : Nat → Int32) (l_n : Int32) (m_x : Nat → Int32) (m_y : Nat → Int32) (m_d : Nat → Int32) (m_t : Nat → Int32) (m_v : Nat → Int32) (m_n : Int32) (r_s : Nat → Int32) (r_n : Nat → Int32) (r_w : Nat → Int32) (r_k : Int32) (x1 : Int32) (x2 : Int32) (N : Nat) (v : String ⊕ (Int32)) (h : fX4_meet N m_x m_y m_d m_t m_n x1 x2 = some v) : wXi l G yX4_meet wsX4_meet ({ frames := 7, cells := 4, slots := 24, locals := 121 } : Room) [.ref c0, .int x1, .int x2] (w_C G c0 l0 l1 l2 l3 m0 m1 m2 m3 m4 m5 r0 r1 r2 r3 g0 g_e l_a l_b l_c l_n m_x m_y m_d m_t m_v m_n r_s r_n r_w r_k) v (fun t : Int32 => (w_C G c0 l0 l1 l2 l3 m0 m1 m2 m3 m4 m5 r0 r1 r2 r3 g0 g_e l_a l_b l_c l_n m_x m_y m_d m_t m_v m_n r_s r_n r_w r_k)) (fun t : Int32 => t) 4 24 := by
  refine wXi.mk (cc := cX4_meet) (maxL := 3) (ty := .int) (by decide) rfl (Nat.le_of_ble_eq_true rfl) ?_
  intro p e s m below meth c A ls hx hb hml hr hlocks hts hown hK hA hP hD hT hnoh hl
  have hx : p.tables.exec = Jvm.exec := hx
  have hown : s.vm.findClass RX4 = some m.cls := hown
  have hinX4 : ∀ w ∈ wsX40, w ∈ wsX4_meet := by decide +kernel
  have lk19 := hts (.fieldLink RX4 19 "Chamberwright" "meets" "LChamberwright$Meets;") (by decide +kernel)
  have lxIAE := hts (.classLink RX4 41 xIAE) (by decide +kernel)
  have iniIAE := hts (.initialized xIAE) (by decide +kernel)
  have gwIAE : ∀ w ∈ (vx_atS RX4 45 xIAE xNms).filter goodWord, w.before _ s = true := fun w hw => hts w ((by decide +kernel : ∀ w ∈ (vx_atS RX4 45 xIAE xNms).filter goodWord, w ∈ wsX4_meet) w hw)
  have hS : va_S A s.heap s.heap [] := va_S.rf
  have hP : va_P G.1 vwCl (w_C G c0 l0 l1 l2 l3 m0 m1 m2 m3 m4 m5 r0 r1 r2 r3 g0 g_e l_a l_b l_c l_n m_x m_y m_d m_t m_v m_n r_s r_n r_w r_k) s.heap := hP
  have hD : va_D A (w_C G c0 l0 l1 l2 l3 m0 m1 m2 m3 m4 m5 r0 r1 r2 r3 g0 g_e l_a l_b l_c l_n m_x m_y m_d m_t m_v m_n r_s r_n r_w r_k) := hD
  have hl : lv_has ls 3 [(0, .ref c0), (1, .int x1), (2, .int x2)] := hl
  obtain ⟨args, hargs⟩ : ∃ z : Array Value, z = ([.ref c0, .int x1, .int x2] : List Value).toArray := ⟨_, rfl⟩
  rw [← hargs]
  rw [← hargs] at hts
  rw [← hargs] at lxIAE iniIAE gwIAE
  rw [fX4_meet.eq_1] at h
  refine lv_aload_n hx hb dX4_meet_0 rfl (lv_at hl 0 rfl) ?_
  refine lv_iload_n hx hb dX4_meet_1 rfl (lv_at hl 1 rfl) ?_
  obtain ⟨x_u_1295, hc_1296, hx_u_1295, h⟩ := bdx_inv h
  refine wafterx_v (wr := []) (vx_runV (As := [.int x1]) (rest := []) ⟨hx, hb, hml, hown, hts⟩ (kX4_checkMeet (l := l) hst (G := G) c0 l0 l1 l2 l3 m0 m1 m2 m3 m4 m5 r0 r1 r2 r3 g0 g_e l_a l_b l_c l_n m_x m_y m_d m_t m_v m_n r_s r_n r_w r_k x1 N x_u_1295 hc_1296 _) (cwV 1 hts gX4_meet_X4_checkMeet rfl rfl rfl (by decide +kernel) ⟨Nat.le_of_ble_eq_true rfl, Nat.le_of_ble_eq_true rfl⟩) (wPreVX hP hD hK hS hA hT [0, 1, 2, 3, 4, 5, 6, 7, 8, 9, 10, 11, 12, 13, 14, 15] rfl rfl (ci := 4) (qb := 0) rfl rfl rfl) rfl rfl hl.1 rfl (lv_room (Nat.le_of_ble_eq_true rfl)) dX4_meet_2 ⟨(Nat.le_of_ble_eq_true rfl), (Nat.le_of_ble_eq_true rfl)⟩) hP hD hS hA [0, 1, 2, 3, 4, 5, 6, 7, 8, 9, 10, 11, 12, 13, 14, 15] [] [0, 1, 2, 3, 4, 5, 6, 7, 8, 9, 10, 11, 12, 13, 14, 15] rfl rfl rfl (by decide) rfl rfl (fun E ce q9 H locs he hP hD hS hce hcv hcl => wpass_i hnoh hlocks hP hD hS hce hcv hcl (hx_u_1295 E he) (Nat.le_of_ble_eq_true rfl) (Nat.le_of_ble_eq_true rfl)) (fun u_1295 H locs hu hP hD hS => ?_)
  have h := h u_1295 hu
  have hP : va_P G.1 vwCl (w_C G c0 l0 l1 l2 l3 m0 m1 m2 m3 m4 m5 r0 r1 r2 r3 g0 g_e l_a l_b l_c l_n m_x m_y m_d m_t m_v m_n r_s r_n r_w r_k) H := hP.sub [0, 1, 2, 3, 4, 5, 6, 7, 8, 9, 10, 11, 12, 13, 14, 15] rfl
  have hD : va_D A (w_C G c0 l0 l1 l2 l3 m0 m1 m2 m3 m4 m5 r0 r1 r2 r3 g0 g_e l_a l_b l_c l_n m_x m_y m_d m_t m_v m_n r_s r_n r_w r_k) := hD.sub [0, 1, 2, 3, 4, 5, 6, 7, 8, 9, 10, 11, 12, 13, 14, 15] rfl rfl
  refine lv_iload_n hx hb dX4_meet_5 rfl (lv_at hl 2 rfl) ?_
  by_cases c_1297 : x2 = 0
  · have h := ip c_1297 h
    refine lv_tableIn (tgt := 36) hx hb dX4_meet_6 (by rw [c_1297]; decide) (by rw [c_1297]; decide) (by rw [c_1297]; rfl) (by decide) ?_
    refine lv_aload_n hx hb dX4_meet_36 rfl (lv_at hl 0 rfl) ?_
    refine va_get (D := G.1) (ci := 4) (v := .ref m0) (C := RX4) (T := TX4) (N := 4) hx hb hts hinX4 hown hK.1 hP 0 rfl rfl 1 (by decide) lk19 (fun _ h9 => h9) rfl dX4_meet_37 ?_
    refine lv_iload_n hx hb dX4_meet_40 rfl (lv_at hl 1 rfl) ?_
    obtain ⟨u_1298, hc_1299, h⟩ := bd_inv h
    refine wafter_i (wr := [(c0, .inr (4, [.ref l0, .ref m0, .ref r0, .ref g0])), (l0, .inr (1, [.ref l1, .ref l2, .ref l3, .int l_n])), (l1, .inl (G.2.1, 9, .inl l_a)), (l2, .inl (G.2.1, 9, .inl l_b)), (l3, .inl (G.2.1, 9, .inl l_c)), (r0, .inr (3, [.ref r1, .ref r2, .ref r3, .int r_k])), (r1, .inl (G.2.1, 46, .inl r_s)), (r2, .inl (G.2.1, 512, .inl r_n)), (r3, .inl (G.2.1, 512, .inl r_w)), (g0, .inr (0, [.long g_e]))]) (w2 := (w_C G c0 l0 l1 l2 l3 m0 m1 m2 m3 m4 m5 r0 r1 r2 r3 g0 g_e l_a l_b l_c l_n m_x m_y m_d m_t m_v m_n r_s r_n r_w r_k)) (va_runV (As := [.int x1]) (rest := []) ⟨hx, hb, hml, hown, hts⟩ (kX2_x (l := l) (G := G) m0 m1 m2 m3 m4 m5 m_x m_y m_d m_t m_v m_n x1 N u_1298 hc_1299 _) (cwV 1 hts gX4_meet_X2_x rfl rfl rfl (by decide +kernel) ⟨Nat.le_of_ble_eq_true rfl, Nat.le_of_ble_eq_true rfl⟩) (wPreV hP hD hK [5, 6, 7, 8, 9, 10] rfl rfl (ci := 2) (qb := 5) rfl rfl rfl) rfl rfl hl.1 rfl (lv_room (Nat.le_of_ble_eq_true rfl)) dX4_meet_41 ⟨Nat.le_of_ble_eq_true rfl, Nat.le_of_ble_eq_true rfl⟩) hP hD hS hA [5, 6, 7, 8, 9, 10] [0, 1, 2, 3, 4, 11, 12, 13, 14, 15] [0, 1, 2, 3, 4, 10, 11, 12, 13, 14, 15, 5, 6, 7, 8, 9] rfl rfl rfl (by decide) rfl rfl (fun H locs hP hD hS => ?_)
    obtain rfl := Option.some.inj h
    exact wrxi (ty := .int) (t0 := u_1298) hx hb hr hlocks hP hD hS (Nat.le_of_ble_eq_true rfl) (Nat.le_of_ble_eq_true rfl) rfl rfl dX4_meet_44
  · have h := iq c_1297 h
    by_cases c_1300 : x2 = 1
    · have h := ip c_1300 h
      refine lv_tableIn (tgt := 45) hx hb dX4_meet_6 (by rw [c_1300]; decide) (by rw [c_1300]; decide) (by rw [c_1300]; rfl) (by decide) ?_
      refine lv_aload_n hx hb dX4_meet_45 rfl (lv_at hl 0 rfl) ?_
      refine va_get (D := G.1) (ci := 4) (v := .ref m0) (C := RX4) (T := TX4) (N := 4) hx hb hts hinX4 hown hK.1 hP 0 rfl rfl 1 (by decide) lk19 (fun _ h9 => h9) rfl dX4_meet_46 ?_
      refine lv_iload_n hx hb dX4_meet_49 rfl (lv_at hl 1 rfl) ?_
      obtain ⟨u_1301, hc_1302, h⟩ := bd_inv h
      refine wafter_i (wr := [(c0, .inr (4, [.ref l0, .ref m0, .ref r0, .ref g0])), (l0, .inr (1, [.ref l1, .ref l2, .ref l3, .int l_n])), (l1, .inl (G.2.1, 9, .inl l_a)), (l2, .inl (G.2.1, 9, .inl l_b)), (l3, .inl (G.2.1, 9, .inl l_c)), (r0, .inr (3, [.ref r1, .ref r2, .ref r3, .int r_k])), (r1, .inl (G.2.1, 46, .inl r_s)), (r2, .inl (G.2.1, 512, .inl r_n)), (r3, .inl (G.2.1, 512, .inl r_w)), (g0, .inr (0, [.long g_e]))]) (w2 := (w_C G c0 l0 l1 l2 l3 m0 m1 m2 m3 m4 m5 r0 r1 r2 r3 g0 g_e l_a l_b l_c l_n m_x m_y m_d m_t m_v m_n r_s r_n r_w r_k)) (va_runV (As := [.int x1]) (rest := []) ⟨hx, hb, hml, hown, hts⟩ (kX2_y (l := l) (G := G) m0 m1 m2 m3 m4 m5 m_x m_y m_d m_t m_v m_n x1 N u_1301 hc_1302 _) (cwV 1 hts gX4_meet_X2_y rfl rfl rfl (by decide +kernel) ⟨Nat.le_of_ble_eq_true rfl, Nat.le_of_ble_eq_true rfl⟩) (wPreV hP hD hK [5, 6, 7, 8, 9, 10] rfl rfl (ci := 2) (qb := 5) rfl rfl rfl) rfl rfl hl.1 rfl (lv_room (Nat.le_of_ble_eq_true rfl)) dX4_meet_50 ⟨Nat.le_of_ble_eq_true rfl, Nat.le_of_ble_eq_true rfl⟩) hP hD hS hA [5, 6, 7, 8, 9, 10] [0, 1, 2, 3, 4, 11, 12, 13, 14, 15] [0, 1, 2, 3, 4, 10, 11, 12, 13, 14, 15, 5, 6, 7, 8, 9] rfl rfl rfl (by decide) rfl rfl (fun H locs hP hD hS => ?_)
      obtain rfl := Option.some.inj h
      exact wrxi (ty := .int) (t0 := u_1301) hx hb hr hlocks hP hD hS (Nat.le_of_ble_eq_true rfl) (Nat.le_of_ble_eq_true rfl) rfl rfl dX4_meet_53
    · have h := iq c_1300 h
      by_cases c_1303 : x2 = 2
      · have h := ip c_1303 h
        refine lv_tableIn (tgt := 54) hx hb dX4_meet_6 (by rw [c_1303]; decide) (by rw [c_1303]; decide) (by rw [c_1303]; rfl) (by decide) ?_
        refine lv_aload_n hx hb dX4_meet_54 rfl (lv_at hl 0 rfl) ?_
        refine va_get (D := G.1) (ci := 4) (v := .ref m0) (C := RX4) (T := TX4) (N := 4) hx hb hts hinX4 hown hK.1 hP 0 rfl rfl 1 (by decide) lk19 (fun _ h9 => h9) rfl dX4_meet_55 ?_
        refine lv_iload_n hx hb dX4_meet_58 rfl (lv_at hl 1 rfl) ?_
        obtain ⟨u_1304, hc_1305, h⟩ := bd_inv h
        refine wafter_i (wr := [(c0, .inr (4, [.ref l0, .ref m0, .ref r0, .ref g0])), (l0, .inr (1, [.ref l1, .ref l2, .ref l3, .int l_n])), (l1, .inl (G.2.1, 9, .inl l_a)), (l2, .inl (G.2.1, 9, .inl l_b)), (l3, .inl (G.2.1, 9, .inl l_c)), (r0, .inr (3, [.ref r1, .ref r2, .ref r3, .int r_k])), (r1, .inl (G.2.1, 46, .inl r_s)), (r2, .inl (G.2.1, 512, .inl r_n)), (r3, .inl (G.2.1, 512, .inl r_w)), (g0, .inr (0, [.long g_e]))]) (w2 := (w_C G c0 l0 l1 l2 l3 m0 m1 m2 m3 m4 m5 r0 r1 r2 r3 g0 g_e l_a l_b l_c l_n m_x m_y m_d m_t m_v m_n r_s r_n r_w r_k)) (va_runV (As := [.int x1]) (rest := []) ⟨hx, hb, hml, hown, hts⟩ (kX2_d (l := l) (G := G) m0 m1 m2 m3 m4 m5 m_x m_y m_d m_t m_v m_n x1 N u_1304 hc_1305 _) (cwV 1 hts gX4_meet_X2_d rfl rfl rfl (by decide +kernel) ⟨Nat.le_of_ble_eq_true rfl, Nat.le_of_ble_eq_true rfl⟩) (wPreV hP hD hK [5, 6, 7, 8, 9, 10] rfl rfl (ci := 2) (qb := 5) rfl rfl rfl) rfl rfl hl.1 rfl (lv_room (Nat.le_of_ble_eq_true rfl)) dX4_meet_59 ⟨Nat.le_of_ble_eq_true rfl, Nat.le_of_ble_eq_true rfl⟩) hP hD hS hA [5, 6, 7, 8, 9, 10] [0, 1, 2, 3, 4, 11, 12, 13, 14, 15] [0, 1, 2, 3, 4, 10, 11, 12, 13, 14, 15, 5, 6, 7, 8, 9] rfl rfl rfl (by decide) rfl rfl (fun H locs hP hD hS => ?_)
        obtain rfl := Option.some.inj h
        exact wrxi (ty := .int) (t0 := u_1304) hx hb hr hlocks hP hD hS (Nat.le_of_ble_eq_true rfl) (Nat.le_of_ble_eq_true rfl) rfl rfl dX4_meet_62
      · have h := iq c_1303 h
        by_cases c_1306 : x2 = 3
        · have h := ip c_1306 h
          refine lv_tableIn (tgt := 63) hx hb dX4_meet_6 (by rw [c_1306]; decide) (by rw [c_1306]; decide) (by rw [c_1306]; rfl) (by decide) ?_
          refine lv_aload_n hx hb dX4_meet_63 rfl (lv_at hl 0 rfl) ?_
          refine va_get (D := G.1) (ci := 4) (v := .ref m0) (C := RX4) (T := TX4) (N := 4) hx hb hts hinX4 hown hK.1 hP 0 rfl rfl 1 (by decide) lk19 (fun _ h9 => h9) rfl dX4_meet_64 ?_
          refine lv_iload_n hx hb dX4_meet_67 rfl (lv_at hl 1 rfl) ?_
          obtain ⟨u_1307, hc_1308, h⟩ := bd_inv h
          refine wafter_i (wr := [(c0, .inr (4, [.ref l0, .ref m0, .ref r0, .ref g0])), (l0, .inr (1, [.ref l1, .ref l2, .ref l3, .int l_n])), (l1, .inl (G.2.1, 9, .inl l_a)), (l2, .inl (G.2.1, 9, .inl l_b)), (l3, .inl (G.2.1, 9, .inl l_c)), (r0, .inr (3, [.ref r1, .ref r2, .ref r3, .int r_k])), (r1, .inl (G.2.1, 46, .inl r_s)), (r2, .inl (G.2.1, 512, .inl r_n)), (r3, .inl (G.2.1, 512, .inl r_w)), (g0, .inr (0, [.long g_e]))]) (w2 := (w_C G c0 l0 l1 l2 l3 m0 m1 m2 m3 m4 m5 r0 r1 r2 r3 g0 g_e l_a l_b l_c l_n m_x m_y m_d m_t m_v m_n r_s r_n r_w r_k)) (va_runV (As := [.int x1]) (rest := []) ⟨hx, hb, hml, hown, hts⟩ (kX2_through (l := l) (G := G) m0 m1 m2 m3 m4 m5 m_x m_y m_d m_t m_v m_n x1 N u_1307 hc_1308 _) (cwV 1 hts gX4_meet_X2_through rfl rfl rfl (by decide +kernel) ⟨Nat.le_of_ble_eq_true rfl, Nat.le_of_ble_eq_true rfl⟩) (wPreV hP hD hK [5, 6, 7, 8, 9, 10] rfl rfl (ci := 2) (qb := 5) rfl rfl rfl) rfl rfl hl.1 rfl (lv_room (Nat.le_of_ble_eq_true rfl)) dX4_meet_68 ⟨Nat.le_of_ble_eq_true rfl, Nat.le_of_ble_eq_true rfl⟩) hP hD hS hA [5, 6, 7, 8, 9, 10] [0, 1, 2, 3, 4, 11, 12, 13, 14, 15] [0, 1, 2, 3, 4, 10, 11, 12, 13, 14, 15, 5, 6, 7, 8, 9] rfl rfl rfl (by decide) rfl rfl (fun H locs hP hD hS => ?_)
          obtain rfl := Option.some.inj h
          exact wrxi (ty := .int) (t0 := u_1307) hx hb hr hlocks hP hD hS (Nat.le_of_ble_eq_true rfl) (Nat.le_of_ble_eq_true rfl) rfl rfl dX4_meet_71
        · have h := iq c_1306 h
          refine lv_tableOut (tgt := 72) hx hb dX4_meet_6 (w_sw3 c_1297 c_1300 c_1303 c_1306) (by decide) ?_
          obtain rfl := Option.some.inj h
          exact wthrow_i (cls := xIAE) (text := "what is 0 to 3") hx hb hst hown (by decide +kernel) lxIAE iniIAE hT (by decide +kernel) gwIAE xng_IAE xot_IAE hP hD hS (hl.1.trans hml.symm) dX4_meet_72 dX4_meet_75 dX4_meet_76 dX4_meet_78 dX4_meet_81 hnoh hlocks (Nat.le_of_ble_eq_true rfl) (Nat.le_of_ble_eq_true rfl) (Nat.le_of_ble_eq_true rfl) (Nat.le_of_ble_eq_true rfl) (Nat.le_of_ble_eq_true rfl) (Nat.le_of_ble_eq_true rfl) rfl
def fX4_checkPower (N : Nat) (x0 : Int32) : Option (String ⊕ (Unit)) := if x0 < 0 then some (.inl xIAE) else if x0 ≤ 2 then some (.inr ()) else some (.inl xIAE)
set_option maxHeartbeats 4000000 in
set_option maxRecDepth 100000 in
theorem kX4_checkPower {l : Launch} (hst : l.stackTraces = false) {G : wG} (x0 : Int32) (N : Nat) (v : String ⊕ (Unit)) (h : fX4_checkPower N x0 = some v) : wXv l G yX4_checkPower wsX4_checkPower ({ frames := 6, cells := 1, slots := 6, locals := 100 } : Room) [.int x0] [] v (fun t : Unit => []) 1 6 := by
  refine wXv.mk (cc := cX4_checkPower) (maxL := 1) (by decide) rfl (Nat.le_of_ble_eq_true rfl) ?_
  intro p e s m below meth c A ls hx hb hml hr hlocks hts hown hK hA hP hD hT hnoh hl
  have hx : p.tables.exec = Jvm.exec := hx
  have hown : s.vm.findClass RX4 = some m.cls := hown
  have lxIAE := hts (.classLink RX4 41 xIAE) (by decide +kernel)
  have iniIAE := hts (.initialized xIAE) (by decide +kernel)
  have gwIAE : ∀ w ∈ (vx_atS RX4 45 xIAE xNms).filter goodWord, w.before _ s = true := fun w hw => hts w ((by decide +kernel : ∀ w ∈ (vx_atS RX4 45 xIAE xNms).filter goodWord, w ∈ wsX4_checkPower) w hw)
  have hS : va_S A s.heap s.heap [] := va_S.rf
  have hP : va_P G.1 vwCl [] s.heap := hP
  have hD : va_D A [] := hD
  have hl : lv_has ls 1 [(0, .int x0)] := hl
  obtain ⟨args, hargs⟩ : ∃ z : Array Value, z = ([.int x0] : List Value).toArray := ⟨_, rfl⟩
  rw [← hargs]
  rw [← hargs] at hts
  rw [← hargs] at lxIAE iniIAE gwIAE
  rw [fX4_checkPower.eq_1] at h
  refine lv_iload_n hx hb dX4_checkPower_0 rfl (lv_at hl 0 rfl) ?_
  refine lv_if_lt (tgt := 9) hx hb dX4_checkPower_1 (by decide) (fun c_1309 => ?_) (fun c_1309 => ?_)
  · have h := ip c_1309 h
    obtain rfl := Option.some.inj h
    exact wthrow_v (cls := xIAE) (text := "a power is 0 to 2") hx hb hst hown (by decide +kernel) lxIAE iniIAE hT (by decide +kernel) gwIAE xng_IAE xot_IAE hP hD hS (hl.1.trans hml.symm) dX4_checkPower_9 dX4_checkPower_12 dX4_checkPower_13 dX4_checkPower_15 dX4_checkPower_18 hnoh hlocks (Nat.le_of_ble_eq_true rfl) (Nat.le_of_ble_eq_true rfl) (Nat.le_of_ble_eq_true rfl) (Nat.le_of_ble_eq_true rfl) (Nat.le_of_ble_eq_true rfl) (Nat.le_of_ble_eq_true rfl) rfl
  · have h := iq c_1309 h
    refine lv_iload_n hx hb dX4_checkPower_4 rfl (lv_at hl 0 rfl) ?_
    refine lv_iconst (v := 2) hx hb dX4_checkPower_5 (by decide) ?_
    refine lv_icmp_le (tgt := 19) hx hb dX4_checkPower_6 (by decide) (fun c_1310 => ?_) (fun c_1310 => ?_)
    · have h := ip c_1310 h
      obtain rfl := Option.some.inj h
      exact wrxv (t0 := ()) hx hb hr hlocks hP hD hS (Nat.le_of_ble_eq_true rfl) (Nat.le_of_ble_eq_true rfl) rfl dX4_checkPower_19
    · have h := iq c_1310 h
      obtain rfl := Option.some.inj h
      exact wthrow_v (cls := xIAE) (text := "a power is 0 to 2") hx hb hst hown (by decide +kernel) lxIAE iniIAE hT (by decide +kernel) gwIAE xng_IAE xot_IAE hP hD hS (hl.1.trans hml.symm) dX4_checkPower_9 dX4_checkPower_12 dX4_checkPower_13 dX4_checkPower_15 dX4_checkPower_18 hnoh hlocks (Nat.le_of_ble_eq_true rfl) (Nat.le_of_ble_eq_true rfl) (Nat.le_of_ble_eq_true rfl) (Nat.le_of_ble_eq_true rfl) (Nat.le_of_ble_eq_true rfl) (Nat.le_of_ble_eq_true rfl) rfl
def fX4_numberWithPower (N : Nat) (l_n : Int32) (x1 : Int32) (x2 : Int32) : Option (Int32) := if x1 = 2 then some 1 else if x1 = 1 then bd (fX1_count N l_n) (fun u_1313 => some ((-u_1313))) else some x2
set_option maxHeartbeats 4000000 in
set_option maxRecDepth 100000 in
theorem kX4_numberWithPower {l : Launch} {G : wG} (c0 l0 l1 l2 l3 m0 m1 m2 m3 m4 m5 r0 r1 r2 r3 g0 : Nat) (g_e : Int64) (l_a : Nat → Int32) (l_b : Nat → Int32) (l_c : Nat → Int32) (l_n : Int32) (m_x : Nat → Int32) (m_y : Nat → Int32) (m_d : Nat → Int32) (m_t : Nat → Int32) (m_v : Nat → Int32) (m_n : Int32) (r_s : Nat → Int32) (r_n : Nat → Int32) (r_w : Nat → Int32) (r_k : Int32) (x1 : Int32) (x2 : Int32) (N : Nat) (v : Int32) (h : fX4_numberWithPower N l_n x1 x2 = some v) : wCi l G yX4_numberWithPower wsX4_numberWithPower ({ frames := 1, cells := 0, slots := 0, locals := 20 } : Room) [.ref c0, .int x1, .int x2] (w_C G c0 l0 l1 l2 l3 m0 m1 m2 m3 m4 m5 r0 r1 r2 r3 g0 g_e l_a l_b l_c l_n m_x m_y m_d m_t m_v m_n r_s r_n r_w r_k) (w_C G c0 l0 l1 l2 l3 m0 m1 m2 m3 m4 m5 r0 r1 r2 r3 g0 g_e l_a l_b l_c l_n m_x m_y m_d m_t m_v m_n r_s r_n r_w r_k) 0 0 v := by
  refine wCi.mk (cc := cX4_numberWithPower) (maxL := 3) (ty := .int) (by decide) rfl (Nat.le_of_ble_eq_true rfl) ?_
  intro p e s m below meth c A ls hx hb hml hr hlocks hts hown hK hA hP hD hl
  have hx : p.tables.exec = Jvm.exec := hx
  have hown : s.vm.findClass RX4 = some m.cls := hown
  have hinX4 : ∀ w ∈ wsX40, w ∈ wsX4_numberWithPower := by decide +kernel
  have lk10 := hts (.fieldLink RX4 10 "Chamberwright" "lines" "LChamberwright$Lines;") (by decide +kernel)
  have hS : va_S A s.heap s.heap [] := va_S.rf
  have hP : va_P G.1 vwCl (w_C G c0 l0 l1 l2 l3 m0 m1 m2 m3 m4 m5 r0 r1 r2 r3 g0 g_e l_a l_b l_c l_n m_x m_y m_d m_t m_v m_n r_s r_n r_w r_k) s.heap := hP
  have hD : va_D A (w_C G c0 l0 l1 l2 l3 m0 m1 m2 m3 m4 m5 r0 r1 r2 r3 g0 g_e l_a l_b l_c l_n m_x m_y m_d m_t m_v m_n r_s r_n r_w r_k) := hD
  have hl : lv_has ls 3 [(0, .ref c0), (1, .int x1), (2, .int x2)] := hl
  obtain ⟨args, hargs⟩ : ∃ z : Array Value, z = ([.ref c0, .int x1, .int x2] : List Value).toArray := ⟨_, rfl⟩
  rw [← hargs]
  rw [← hargs] at hts
  rw [fX4_numberWithPower.eq_1] at h
  refine lv_iload_n hx hb dX4_numberWithPower_0 rfl (lv_at hl 1 rfl) ?_
  refine lv_iconst (v := 2) hx hb dX4_numberWithPower_1 (by decide) ?_
  refine lv_icmp_ne (tgt := 7) hx hb dX4_numberWithPower_2 (by decide) (fun c_1311 => ?_) (fun c_1311 => ?_)
  · have h := iq c_1311 h
    refine lv_iload_n hx hb dX4_numberWithPower_7 rfl (lv_at hl 1 rfl) ?_
    refine lv_iconst (v := 1) hx hb dX4_numberWithPower_8 (by decide) ?_
    refine lv_icmp_ne (tgt := 23) hx hb dX4_numberWithPower_9 (by decide) (fun c_1312 => ?_) (fun c_1312 => ?_)
    · have h := iq c_1312 h
      refine lv_iload_n hx hb dX4_numberWithPower_23 rfl (lv_at hl 2 rfl) ?_
      obtain rfl := Option.some.inj h
      exact wri hx hb hr hlocks hP hD hS (Nat.le_of_ble_eq_true rfl) (Nat.le_of_ble_eq_true rfl) rfl dX4_numberWithPower_24
    · have h := ip c_1312 h
      refine lv_aload_n hx hb dX4_numberWithPower_12 rfl (lv_at hl 0 rfl) ?_
      refine va_get (D := G.1) (ci := 4) (v := .ref l0) (C := RX4) (T := TX4) (N := 4) hx hb hts hinX4 hown hK.1 hP 0 rfl rfl 0 (by decide) lk10 (fun _ h9 => h9) rfl dX4_numberWithPower_13 ?_
      obtain ⟨u_1313, hc_1314, h⟩ := bd_inv h
      refine wafter_i (wr := [(c0, .inr (4, [.ref l0, .ref m0, .ref r0, .ref g0])), (m0, .inr (2, [.ref m1, .ref m2, .ref m3, .ref m4, .ref m5, .int m_n])), (m1, .inl (G.2.1, 36, .inl m_x)), (m2, .inl (G.2.1, 36, .inl m_y)), (m3, .inl (G.2.1, 36, .inl m_d)), (m4, .inl (G.2.1, 36, .inl m_t)), (m5, .inl (G.2.1, 36, .inl m_v)), (r0, .inr (3, [.ref r1, .ref r2, .ref r3, .int r_k])), (r1, .inl (G.2.1, 46, .inl r_s)), (r2, .inl (G.2.1, 512, .inl r_n)), (r3, .inl (G.2.1, 512, .inl r_w)), (g0, .inr (0, [.long g_e]))]) (w2 := (w_C G c0 l0 l1 l2 l3 m0 m1 m2 m3 m4 m5 r0 r1 r2 r3 g0 g_e l_a l_b l_c l_n m_x m_y m_d m_t m_v m_n r_s r_n r_w r_k)) (va_runV (As := []) (rest := []) ⟨hx, hb, hml, hown, hts⟩ (kX1_count (l := l) (G := G) l0 l1 l2 l3 l_a l_b l_c l_n  N u_1313 hc_1314 _) (cwV 0 hts gX4_numberWithPower_X1_count rfl rfl rfl (by decide +kernel) ⟨Nat.le_of_ble_eq_true rfl, Nat.le_of_ble_eq_true rfl⟩) (wPreV hP hD hK [1, 2, 3, 4] rfl rfl (ci := 1) (qb := 1) rfl rfl rfl) rfl rfl hl.1 rfl (lv_room (Nat.le_of_ble_eq_true rfl)) dX4_numberWithPower_16 ⟨Nat.zero_le _, Nat.zero_le _⟩) hP hD hS hA [1, 2, 3, 4] [0, 5, 6, 7, 8, 9, 10, 11, 12, 13, 14, 15] [0, 12, 13, 14, 15, 1, 2, 3, 4, 5, 6, 7, 8, 9, 10, 11] rfl rfl rfl (by decide) rfl rfl (fun H locs hP hD hS => ?_)
      refine lv_ineg hx hb dX4_numberWithPower_19 ?_
      refine lv_goto (tgt := 24) hx hb dX4_numberWithPower_20 (by decide) ?_
      obtain rfl := Option.some.inj h
      exact wri hx hb hr hlocks hP hD hS (Nat.le_of_ble_eq_true rfl) (Nat.le_of_ble_eq_true rfl) rfl dX4_numberWithPower_24
  · have h := ip c_1311 h
    refine lv_iconst (v := 1) hx hb dX4_numberWithPower_5 (by decide) ?_
    obtain rfl := Option.some.inj h
    exact wri hx hb hr hlocks hP hD hS (Nat.le_of_ble_eq_true rfl) (Nat.le_of_ble_eq_true rfl) rfl dX4_numberWithPower_6
def fX4_polynomial (N : Nat) (l_n : Int32) (m_t : Nat → Int32) (m_n : Int32) (x1 : Int32) : Option (String ⊕ (Int32)) := bdx (fX4_checkPower N x1) (fun u_1315 => bd (fX2_surplus N m_t m_n) (fun u_1317 => bd (fX4_numberWithPower N l_n x1 u_1317) (fun u_1319 => some (.inr u_1319))))
set_option maxHeartbeats 4000000 in
set_option maxRecDepth 100000 in
theorem kX4_polynomial {l : Launch} (hst : l.stackTraces = false) {G : wG} (c0 l0 l1 l2 l3 m0 m1 m2 m3 m4 m5 r0 r1 r2 r3 g0 : Nat) (g_e : Int64) (l_a : Nat → Int32) (l_b : Nat → Int32) (l_c : Nat → Int32) (l_n : Int32) (m_x : Nat → Int32) (m_y : Nat → Int32) (m_d : Nat → Int32) (m_t : Nat → Int32) (m_v : Nat → Int32) (m_n : Int32) (r_s : Nat → Int32) (r_n : Nat → Int32) (r_w : Nat → Int32) (r_k : Int32) (x1 : Int32) (N : Nat) (v : String ⊕ (Int32)) (h : fX4_polynomial N l_n m_t m_n x1 = some v) : wXi l G yX4_polynomial wsX4_polynomial ({ frames := 7, cells := 4, slots := 24, locals := 120 } : Room) [.ref c0, .int x1] (w_C G c0 l0 l1 l2 l3 m0 m1 m2 m3 m4 m5 r0 r1 r2 r3 g0 g_e l_a l_b l_c l_n m_x m_y m_d m_t m_v m_n r_s r_n r_w r_k) v (fun t : Int32 => (w_C G c0 l0 l1 l2 l3 m0 m1 m2 m3 m4 m5 r0 r1 r2 r3 g0 g_e l_a l_b l_c l_n m_x m_y m_d m_t m_v m_n r_s r_n r_w r_k)) (fun t : Int32 => t) 4 24 := by
  refine wXi.mk (cc := cX4_polynomial) (maxL := 2) (ty := .int) (by decide) rfl (Nat.le_of_ble_eq_true rfl) ?_
  intro p e s m below meth c A ls hx hb hml hr hlocks hts hown hK hA hP hD hT hnoh hl
  have hx : p.tables.exec = Jvm.exec := hx
  have hown : s.vm.findClass RX4 = some m.cls := hown
  have hinX4 : ∀ w ∈ wsX40, w ∈ wsX4_polynomial := by decide +kernel
  have lk19 := hts (.fieldLink RX4 19 "Chamberwright" "meets" "LChamberwright$Meets;") (by decide +kernel)
  have hS : va_S A s.heap s.heap [] := va_S.rf
  have hP : va_P G.1 vwCl (w_C G c0 l0 l1 l2 l3 m0 m1 m2 m3 m4 m5 r0 r1 r2 r3 g0 g_e l_a l_b l_c l_n m_x m_y m_d m_t m_v m_n r_s r_n r_w r_k) s.heap := hP
  have hD : va_D A (w_C G c0 l0 l1 l2 l3 m0 m1 m2 m3 m4 m5 r0 r1 r2 r3 g0 g_e l_a l_b l_c l_n m_x m_y m_d m_t m_v m_n r_s r_n r_w r_k) := hD
  have hl : lv_has ls 2 [(0, .ref c0), (1, .int x1)] := hl
  obtain ⟨args, hargs⟩ : ∃ z : Array Value, z = ([.ref c0, .int x1] : List Value).toArray := ⟨_, rfl⟩
  rw [← hargs]
  rw [← hargs] at hts
  rw [fX4_polynomial.eq_1] at h
  refine lv_iload_n hx hb dX4_polynomial_0 rfl (lv_at hl 1 rfl) ?_
  obtain ⟨x_u_1315, hc_1316, hx_u_1315, h⟩ := bdx_inv h
  refine wafterx_v (wr := (w_C G c0 l0 l1 l2 l3 m0 m1 m2 m3 m4 m5 r0 r1 r2 r3 g0 g_e l_a l_b l_c l_n m_x m_y m_d m_t m_v m_n r_s r_n r_w r_k)) (vx_runS (As := [.int x1]) (rest := []) ⟨hx, hb, hml, hown, hts⟩ (kX4_checkPower (l := l) hst (G := G)   x1 N x_u_1315 hc_1316 _) (va_cwS 1 hts gX4_polynomial_X4_checkPower rfl rfl rfl (by decide +kernel) ⟨Nat.le_of_ble_eq_true rfl, Nat.le_of_ble_eq_true rfl⟩) (wPreSX hP hD hK hS hA hT [] rfl rfl) rfl rfl hl.1 rfl (lv_room (Nat.le_of_ble_eq_true rfl)) dX4_polynomial_1 ⟨(Nat.le_of_ble_eq_true rfl), (Nat.le_of_ble_eq_true rfl)⟩) hP hD hS hA [] [0, 1, 2, 3, 4, 5, 6, 7, 8, 9, 10, 11, 12, 13, 14, 15] [0, 1, 2, 3, 4, 5, 6, 7, 8, 9, 10, 11, 12, 13, 14, 15] rfl rfl rfl (by decide) rfl rfl (fun E ce q9 H locs he hP hD hS hce hcv hcl => wpass_i hnoh hlocks hP hD hS hce hcv hcl (hx_u_1315 E he) (Nat.le_of_ble_eq_true rfl) (Nat.le_of_ble_eq_true rfl)) (fun u_1315 H locs hu hP hD hS => ?_)
  have h := h u_1315 hu
  have hP : va_P G.1 vwCl (w_C G c0 l0 l1 l2 l3 m0 m1 m2 m3 m4 m5 r0 r1 r2 r3 g0 g_e l_a l_b l_c l_n m_x m_y m_d m_t m_v m_n r_s r_n r_w r_k) H := hP.sub [0, 1, 2, 3, 4, 5, 6, 7, 8, 9, 10, 11, 12, 13, 14, 15] rfl
  have hD : va_D A (w_C G c0 l0 l1 l2 l3 m0 m1 m2 m3 m4 m5 r0 r1 r2 r3 g0 g_e l_a l_b l_c l_n m_x m_y m_d m_t m_v m_n r_s r_n r_w r_k) := hD.sub [0, 1, 2, 3, 4, 5, 6, 7, 8, 9, 10, 11, 12, 13, 14, 15] rfl rfl
  refine lv_aload_n hx hb dX4_polynomial_4 rfl (lv_at hl 0 rfl) ?_
  refine lv_iload_n hx hb dX4_polynomial_5 rfl (lv_at hl 1 rfl) ?_
  refine lv_aload_n hx hb dX4_polynomial_6 rfl (lv_at hl 0 rfl) ?_
  refine va_get (D := G.1) (ci := 4) (v := .ref m0) (C := RX4) (T := TX4) (N := 4) hx hb hts hinX4 hown hK.1 hP 0 rfl rfl 1 (by decide) lk19 (fun _ h9 => h9) rfl dX4_polynomial_7 ?_
  obtain ⟨u_1317, hc_1318, h⟩ := bd_inv h
  refine wafter_i (wr := [(c0, .inr (4, [.ref l0, .ref m0, .ref r0, .ref g0])), (l0, .inr (1, [.ref l1, .ref l2, .ref l3, .int l_n])), (l1, .inl (G.2.1, 9, .inl l_a)), (l2, .inl (G.2.1, 9, .inl l_b)), (l3, .inl (G.2.1, 9, .inl l_c)), (r0, .inr (3, [.ref r1, .ref r2, .ref r3, .int r_k])), (r1, .inl (G.2.1, 46, .inl r_s)), (r2, .inl (G.2.1, 512, .inl r_n)), (r3, .inl (G.2.1, 512, .inl r_w)), (g0, .inr (0, [.long g_e]))]) (w2 := (w_C G c0 l0 l1 l2 l3 m0 m1 m2 m3 m4 m5 r0 r1 r2 r3 g0 g_e l_a l_b l_c l_n m_x m_y m_d m_t m_v m_n r_s r_n r_w r_k)) (va_runV (As := []) (rest := [.int x1, .ref c0]) ⟨hx, hb, hml, hown, hts⟩ (kX2_surplus (l := l) (G := G) m0 m1 m2 m3 m4 m5 m_x m_y m_d m_t m_v m_n  N u_1317 hc_1318 _) (cwV 0 hts gX4_polynomial_X2_surplus rfl rfl rfl (by decide +kernel) ⟨Nat.le_of_ble_eq_true rfl, Nat.le_of_ble_eq_true rfl⟩) (wPreV hP hD hK [5, 6, 7, 8, 9, 10] rfl rfl (ci := 2) (qb := 5) rfl rfl rfl) rfl rfl hl.1 rfl (lv_room (Nat.le_of_ble_eq_true rfl)) dX4_polynomial_10 ⟨Nat.le_of_ble_eq_true rfl, Nat.le_of_ble_eq_true rfl⟩) hP hD hS hA [5, 6, 7, 8, 9, 10] [0, 1, 2, 3, 4, 11, 12, 13, 14, 15] [0, 1, 2, 3, 4, 10, 11, 12, 13, 14, 15, 5, 6, 7, 8, 9] rfl rfl rfl (by decide) rfl rfl (fun H locs hP hD hS => ?_)
  obtain ⟨u_1319, hc_1320, h⟩ := bd_inv h
  refine wafter_i (wr := []) (w2 := (w_C G c0 l0 l1 l2 l3 m0 m1 m2 m3 m4 m5 r0 r1 r2 r3 g0 g_e l_a l_b l_c l_n m_x m_y m_d m_t m_v m_n r_s r_n r_w r_k)) (va_runV (As := [.int x1, .int u_1317]) (rest := []) ⟨hx, hb, hml, hown, hts⟩ (kX4_numberWithPower (l := l) (G := G) c0 l0 l1 l2 l3 m0 m1 m2 m3 m4 m5 r0 r1 r2 r3 g0 g_e l_a l_b l_c l_n m_x m_y m_d m_t m_v m_n r_s r_n r_w r_k x1 u_1317 N u_1319 hc_1320 _) (cwV 2 hts gX4_polynomial_X4_numberWithPower rfl rfl rfl (by decide +kernel) ⟨Nat.le_of_ble_eq_true rfl, Nat.le_of_ble_eq_true rfl⟩) (wPreV hP hD hK [0, 1, 2, 3, 4, 5, 6, 7, 8, 9, 10, 11, 12, 13, 14, 15] rfl rfl (ci := 4) (qb := 0) rfl rfl rfl) rfl rfl hl.1 rfl (lv_room (Nat.le_of_ble_eq_true rfl)) dX4_polynomial_13 ⟨Nat.le_of_ble_eq_true rfl, Nat.le_of_ble_eq_true rfl⟩) hP hD hS hA [0, 1, 2, 3, 4, 5, 6, 7, 8, 9, 10, 11, 12, 13, 14, 15] [] [0, 1, 2, 3, 4, 5, 6, 7, 8, 9, 10, 11, 12, 13, 14, 15] rfl rfl rfl (by decide) rfl rfl (fun H locs hP hD hS => ?_)
  obtain rfl := Option.some.inj h
  exact wrxi (ty := .int) (t0 := u_1319) hx hb hr hlocks hP hD hS (Nat.le_of_ble_eq_true rfl) (Nat.le_of_ble_eq_true rfl) rfl rfl dX4_polynomial_16
def fX4_polynomialAnew_b8 (N : Nat) (l_a : Nat → Int32) (l_b : Nat → Int32) (l_c : Nat → Int32) (l_n : Int32) (k_36 : Int32 → Option (String ⊕ (Int32))) : Nat → Int32 → Int32 → Option (String ⊕ (Int32))
  | 0, _, _ => none
  | n + 1, x2, x3 => bd (fX1_count N l_n) (fun u_1321 => if u_1321 ≤ x3 then k_36 x2 else bd (fX1_pointsOnLowerOnes N l_a l_b l_c x3) (fun u_1324 => fX4_polynomialAnew_b8 N l_a l_b l_c l_n k_36 n (x2 + u_1324) (x3 + 1)))
def fX4_polynomialAnew (N : Nat) (l_a : Nat → Int32) (l_b : Nat → Int32) (l_c : Nat → Int32) (l_n : Int32) (x1 : Int32) : Option (String ⊕ (Int32)) := bdx (fX4_checkPower N x1) (fun u_1326 => fX4_polynomialAnew_b8 N l_a l_b l_c l_n (fun (x2_1328 : Int32) => bd (fX4_numberWithPower N l_n x1 x2_1328) (fun u_1329 => some (.inr u_1329))) N 0 0)
set_option maxHeartbeats 4000000 in
set_option maxRecDepth 100000 in
theorem kX4_polynomialAnew {l : Launch} (hst : l.stackTraces = false) {G : wG} (c0 l0 l1 l2 l3 m0 m1 m2 m3 m4 m5 r0 r1 r2 r3 g0 : Nat) (g_e : Int64) (l_a : Nat → Int32) (l_b : Nat → Int32) (l_c : Nat → Int32) (l_n : Int32) (m_x : Nat → Int32) (m_y : Nat → Int32) (m_d : Nat → Int32) (m_t : Nat → Int32) (m_v : Nat → Int32) (m_n : Int32) (r_s : Nat → Int32) (r_n : Nat → Int32) (r_w : Nat → Int32) (r_k : Int32) (x1 : Int32) (N : Nat) (v : String ⊕ (Int32)) (h : fX4_polynomialAnew N l_a l_b l_c l_n x1 = some v) : wXi l G yX4_polynomialAnew wsX4_polynomialAnew ({ frames := 7, cells := 4, slots := 24, locals := 120 } : Room) [.ref c0, .int x1] (w_C G c0 l0 l1 l2 l3 m0 m1 m2 m3 m4 m5 r0 r1 r2 r3 g0 g_e l_a l_b l_c l_n m_x m_y m_d m_t m_v m_n r_s r_n r_w r_k) v (fun t : Int32 => (w_C G c0 l0 l1 l2 l3 m0 m1 m2 m3 m4 m5 r0 r1 r2 r3 g0 g_e l_a l_b l_c l_n m_x m_y m_d m_t m_v m_n r_s r_n r_w r_k)) (fun t : Int32 => t) 4 24 := by
  refine wXi.mk (cc := cX4_polynomialAnew) (maxL := 4) (ty := .int) (by decide) rfl (Nat.le_of_ble_eq_true rfl) ?_
  intro p e s m below meth c A ls hx hb hml hr hlocks hts hown hK hA hP hD hT hnoh hl
  have hx : p.tables.exec = Jvm.exec := hx
  have hown : s.vm.findClass RX4 = some m.cls := hown
  have hinX4 : ∀ w ∈ wsX40, w ∈ wsX4_polynomialAnew := by decide +kernel
  have lk10 := hts (.fieldLink RX4 10 "Chamberwright" "lines" "LChamberwright$Lines;") (by decide +kernel)
  have hS : va_S A s.heap s.heap [] := va_S.rf
  have hP : va_P G.1 vwCl (w_C G c0 l0 l1 l2 l3 m0 m1 m2 m3 m4 m5 r0 r1 r2 r3 g0 g_e l_a l_b l_c l_n m_x m_y m_d m_t m_v m_n r_s r_n r_w r_k) s.heap := hP
  have hD : va_D A (w_C G c0 l0 l1 l2 l3 m0 m1 m2 m3 m4 m5 r0 r1 r2 r3 g0 g_e l_a l_b l_c l_n m_x m_y m_d m_t m_v m_n r_s r_n r_w r_k) := hD
  have hl : lv_has ls 4 [(0, .ref c0), (1, .int x1)] := hl
  obtain ⟨args, hargs⟩ : ∃ z : Array Value, z = ([.ref c0, .int x1] : List Value).toArray := ⟨_, rfl⟩
  rw [← hargs]
  rw [← hargs] at hts
  have w_8 : ∀ (k_36 : Int32 → Option (String ⊕ (Int32))) (x1 : Int32)  (_z : Unit), (∀ (y2 : Int32) (H : Heap) (locs : List Loc) (ls : Array Slot), va_P G.1 vwCl (w_C G c0 l0 l1 l2 l3 m0 m1 m2 m3 m4 m5 r0 r1 r2 r3 g0 g_e l_a l_b l_c l_n m_x m_y m_d m_t m_v m_n r_s r_n r_w r_k) H → va_D A (w_C G c0 l0 l1 l2 l3 m0 m1 m2 m3 m4 m5 r0 r1 r2 r3 g0 g_e l_a l_b l_c l_n m_x m_y m_d m_t m_v m_n r_s r_n r_w r_k) → va_S A s.heap H locs → lv_has ls 4 [(0, .ref c0), (1, .int x1), (2, .int y2)] → k_36 y2 = some v → W p l e ({ frames := 7, cells := 4, slots := 24, locals := 120 } : Room) s m args below meth c H locs 3 18 (wQxi G A below args s (w_C G c0 l0 l1 l2 l3 m0 m1 m2 m3 m4 m5 r0 r1 r2 r3 g0 g_e l_a l_b l_c l_n m_x m_y m_d m_t m_v m_n r_s r_n r_w r_k) v (fun t : Int32 => (w_C G c0 l0 l1 l2 l3 m0 m1 m2 m3 m4 m5 r0 r1 r2 r3 g0 g_e l_a l_b l_c l_n m_x m_y m_d m_t m_v m_n r_s r_n r_w r_k)) (fun t : Int32 => t) 4 24) (F0 m 36 ls [])) → ∀ (n : Nat) (x2 : Int32) (x3 : Int32)  (H : Heap) (locs : List Loc) (ls : Array Slot), va_P G.1 vwCl (w_C G c0 l0 l1 l2 l3 m0 m1 m2 m3 m4 m5 r0 r1 r2 r3 g0 g_e l_a l_b l_c l_n m_x m_y m_d m_t m_v m_n r_s r_n r_w r_k) H → va_D A (w_C G c0 l0 l1 l2 l3 m0 m1 m2 m3 m4 m5 r0 r1 r2 r3 g0 g_e l_a l_b l_c l_n m_x m_y m_d m_t m_v m_n r_s r_n r_w r_k) → va_S A s.heap H locs → lv_has ls 4 [(0, .ref c0), (1, .int x1), (2, .int x2), (3, .int x3)] → fX4_polynomialAnew_b8 N l_a l_b l_c l_n k_36 n x2 x3 = some v → W p l e ({ frames := 7, cells := 4, slots := 24, locals := 120 } : Room) s m args below meth c H locs 3 18 (wQxi G A below args s (w_C G c0 l0 l1 l2 l3 m0 m1 m2 m3 m4 m5 r0 r1 r2 r3 g0 g_e l_a l_b l_c l_n m_x m_y m_d m_t m_v m_n r_s r_n r_w r_k) v (fun t : Int32 => (w_C G c0 l0 l1 l2 l3 m0 m1 m2 m3 m4 m5 r0 r1 r2 r3 g0 g_e l_a l_b l_c l_n m_x m_y m_d m_t m_v m_n r_s r_n r_w r_k)) (fun t : Int32 => t) 4 24) (F0 m 8 ls []) := by
    intro k_36 x1 _z hk_36 n
    induction n with
    | zero =>
      intro x2 x3 H locs ls hP hD hS hl h
      rw [fX4_polynomialAnew_b8.eq_1] at h
      cases h
    | succ n ih =>
      intro x2 x3 H locs ls hP hD hS hl h
      rw [fX4_polynomialAnew_b8.eq_2] at h
      refine lv_iload_n hx hb dX4_polynomialAnew_8 rfl (lv_at hl 3 rfl) ?_
      refine lv_aload_n hx hb dX4_polynomialAnew_9 rfl (lv_at hl 0 rfl) ?_
      refine va_get (D := G.1) (ci := 4) (v := .ref l0) (C := RX4) (T := TX4) (N := 4) hx hb hts hinX4 hown hK.1 hP 0 rfl rfl 0 (by decide) lk10 (fun _ h9 => h9) rfl dX4_polynomialAnew_10 ?_
      obtain ⟨u_1321, hc_1322, h⟩ := bd_inv h
      refine wafter_i (wr := [(c0, .inr (4, [.ref l0, .ref m0, .ref r0, .ref g0])), (m0, .inr (2, [.ref m1, .ref m2, .ref m3, .ref m4, .ref m5, .int m_n])), (m1, .inl (G.2.1, 36, .inl m_x)), (m2, .inl (G.2.1, 36, .inl m_y)), (m3, .inl (G.2.1, 36, .inl m_d)), (m4, .inl (G.2.1, 36, .inl m_t)), (m5, .inl (G.2.1, 36, .inl m_v)), (r0, .inr (3, [.ref r1, .ref r2, .ref r3, .int r_k])), (r1, .inl (G.2.1, 46, .inl r_s)), (r2, .inl (G.2.1, 512, .inl r_n)), (r3, .inl (G.2.1, 512, .inl r_w)), (g0, .inr (0, [.long g_e]))]) (w2 := (w_C G c0 l0 l1 l2 l3 m0 m1 m2 m3 m4 m5 r0 r1 r2 r3 g0 g_e l_a l_b l_c l_n m_x m_y m_d m_t m_v m_n r_s r_n r_w r_k)) (va_runV (As := []) (rest := [.int x3]) ⟨hx, hb, hml, hown, hts⟩ (kX1_count (l := l) (G := G) l0 l1 l2 l3 l_a l_b l_c l_n  N u_1321 hc_1322 _) (cwV 0 hts gX4_polynomialAnew_X1_count rfl rfl rfl (by decide +kernel) ⟨Nat.le_of_ble_eq_true rfl, Nat.le_of_ble_eq_true rfl⟩) (wPreV hP hD hK [1, 2, 3, 4] rfl rfl (ci := 1) (qb := 1) rfl rfl rfl) rfl rfl hl.1 rfl (lv_room (Nat.le_of_ble_eq_true rfl)) dX4_polynomialAnew_13 ⟨Nat.le_of_ble_eq_true rfl, Nat.le_of_ble_eq_true rfl⟩) hP hD hS hA [1, 2, 3, 4] [0, 5, 6, 7, 8, 9, 10, 11, 12, 13, 14, 15] [0, 12, 13, 14, 15, 1, 2, 3, 4, 5, 6, 7, 8, 9, 10, 11] rfl rfl rfl (by decide) rfl rfl (fun H locs hP hD hS => ?_)
      refine lv_icmp_ge (tgt := 36) hx hb dX4_polynomialAnew_16 (by decide) (fun c_1323 => ?_) (fun c_1323 => ?_)
      · have h := ip c_1323 h
        exact hk_36 _ _ _ _ hP hD hS (lv_sub hl [0, 1, 2] rfl) h
      · have h := iq c_1323 h
        refine lv_iload_n hx hb dX4_polynomialAnew_19 rfl (lv_at hl 2 rfl) ?_
        refine lv_aload_n hx hb dX4_polynomialAnew_20 rfl (lv_at hl 0 rfl) ?_
        refine va_get (D := G.1) (ci := 4) (v := .ref l0) (C := RX4) (T := TX4) (N := 4) hx hb hts hinX4 hown hK.1 hP 0 rfl rfl 0 (by decide) lk10 (fun _ h9 => h9) rfl dX4_polynomialAnew_21 ?_
        refine lv_iload_n hx hb dX4_polynomialAnew_24 rfl (lv_at hl 3 rfl) ?_
        obtain ⟨u_1324, hc_1325, h⟩ := bd_inv h
        refine wafter_i (wr := [(c0, .inr (4, [.ref l0, .ref m0, .ref r0, .ref g0])), (m0, .inr (2, [.ref m1, .ref m2, .ref m3, .ref m4, .ref m5, .int m_n])), (m1, .inl (G.2.1, 36, .inl m_x)), (m2, .inl (G.2.1, 36, .inl m_y)), (m3, .inl (G.2.1, 36, .inl m_d)), (m4, .inl (G.2.1, 36, .inl m_t)), (m5, .inl (G.2.1, 36, .inl m_v)), (r0, .inr (3, [.ref r1, .ref r2, .ref r3, .int r_k])), (r1, .inl (G.2.1, 46, .inl r_s)), (r2, .inl (G.2.1, 512, .inl r_n)), (r3, .inl (G.2.1, 512, .inl r_w)), (g0, .inr (0, [.long g_e]))]) (w2 := (w_C G c0 l0 l1 l2 l3 m0 m1 m2 m3 m4 m5 r0 r1 r2 r3 g0 g_e l_a l_b l_c l_n m_x m_y m_d m_t m_v m_n r_s r_n r_w r_k)) (va_runV (As := [.int x3]) (rest := [.int x2]) ⟨hx, hb, hml, hown, hts⟩ (kX1_pointsOnLowerOnes (l := l) (G := G) l0 l1 l2 l3 l_a l_b l_c l_n x3 N u_1324 hc_1325 _) (cwV 1 hts gX4_polynomialAnew_X1_pointsOnLowerOnes rfl rfl rfl (by decide +kernel) ⟨Nat.le_of_ble_eq_true rfl, Nat.le_of_ble_eq_true rfl⟩) (wPreV hP hD hK [1, 2, 3, 4] rfl rfl (ci := 1) (qb := 1) rfl rfl rfl) rfl rfl hl.1 rfl (lv_room (Nat.le_of_ble_eq_true rfl)) dX4_polynomialAnew_25 ⟨Nat.le_of_ble_eq_true rfl, Nat.le_of_ble_eq_true rfl⟩) hP hD hS hA [1, 2, 3, 4] [0, 5, 6, 7, 8, 9, 10, 11, 12, 13, 14, 15] [0, 12, 13, 14, 15, 1, 2, 3, 4, 5, 6, 7, 8, 9, 10, 11] rfl rfl rfl (by decide) rfl rfl (fun H locs hP hD hS => ?_)
        refine lv_iadd hx hb dX4_polynomialAnew_28 ?_
        refine lv_istore_n (lv' := [(2, .int (x2 + u_1324)), (0, .ref c0), (1, .int x1), (3, .int x3)]) hx hb dX4_polynomialAnew_29 rfl hl (by decide) rfl (fun ls hl => ?_)
        refine lv_iinc (v := (x3 + 1)) (lv' := [(3, .int (x3 + 1)), (2, .int (x2 + u_1324)), (0, .ref c0), (1, .int x1)]) hx hb dX4_polynomialAnew_30 hl (k := 3) rfl rfl (by decide) rfl (fun ls hl => ?_)
        refine lv_goto (tgt := 8) hx hb dX4_polynomialAnew_33 (by decide) ?_
        exact ih _ _ _ _ _ hP hD hS (lv_sub hl [2, 3, 1, 0] rfl) h
  rw [fX4_polynomialAnew.eq_1] at h
  refine lv_iload_n hx hb dX4_polynomialAnew_0 rfl (lv_at hl 1 rfl) ?_
  obtain ⟨x_u_1326, hc_1327, hx_u_1326, h⟩ := bdx_inv h
  refine wafterx_v (wr := (w_C G c0 l0 l1 l2 l3 m0 m1 m2 m3 m4 m5 r0 r1 r2 r3 g0 g_e l_a l_b l_c l_n m_x m_y m_d m_t m_v m_n r_s r_n r_w r_k)) (vx_runS (As := [.int x1]) (rest := []) ⟨hx, hb, hml, hown, hts⟩ (kX4_checkPower (l := l) hst (G := G)   x1 N x_u_1326 hc_1327 _) (va_cwS 1 hts gX4_polynomialAnew_X4_checkPower rfl rfl rfl (by decide +kernel) ⟨Nat.le_of_ble_eq_true rfl, Nat.le_of_ble_eq_true rfl⟩) (wPreSX hP hD hK hS hA hT [] rfl rfl) rfl rfl hl.1 rfl (lv_room (Nat.le_of_ble_eq_true rfl)) dX4_polynomialAnew_1 ⟨(Nat.le_of_ble_eq_true rfl), (Nat.le_of_ble_eq_true rfl)⟩) hP hD hS hA [] [0, 1, 2, 3, 4, 5, 6, 7, 8, 9, 10, 11, 12, 13, 14, 15] [0, 1, 2, 3, 4, 5, 6, 7, 8, 9, 10, 11, 12, 13, 14, 15] rfl rfl rfl (by decide) rfl rfl (fun E ce q9 H locs he hP hD hS hce hcv hcl => wpass_i hnoh hlocks hP hD hS hce hcv hcl (hx_u_1326 E he) (Nat.le_of_ble_eq_true rfl) (Nat.le_of_ble_eq_true rfl)) (fun u_1326 H locs hu hP hD hS => ?_)
  have h := h u_1326 hu
  have hP : va_P G.1 vwCl (w_C G c0 l0 l1 l2 l3 m0 m1 m2 m3 m4 m5 r0 r1 r2 r3 g0 g_e l_a l_b l_c l_n m_x m_y m_d m_t m_v m_n r_s r_n r_w r_k) H := hP.sub [0, 1, 2, 3, 4, 5, 6, 7, 8, 9, 10, 11, 12, 13, 14, 15] rfl
  have hD : va_D A (w_C G c0 l0 l1 l2 l3 m0 m1 m2 m3 m4 m5 r0 r1 r2 r3 g0 g_e l_a l_b l_c l_n m_x m_y m_d m_t m_v m_n r_s r_n r_w r_k) := hD.sub [0, 1, 2, 3, 4, 5, 6, 7, 8, 9, 10, 11, 12, 13, 14, 15] rfl rfl
  refine lv_iconst (v := 0) hx hb dX4_polynomialAnew_4 (by decide) ?_
  refine lv_istore_n (lv' := [(2, .int 0), (0, .ref c0), (1, .int x1)]) hx hb dX4_polynomialAnew_5 rfl hl (by decide) rfl (fun ls hl => ?_)
  refine lv_iconst (v := 0) hx hb dX4_polynomialAnew_6 (by decide) ?_
  refine lv_istore_n (lv' := [(3, .int 0), (2, .int 0), (0, .ref c0), (1, .int x1)]) hx hb dX4_polynomialAnew_7 rfl hl (by decide) rfl (fun ls hl => ?_)
  refine W.widen (k := 3) (n := 18) (Nat.le_of_ble_eq_true rfl) (Nat.le_of_ble_eq_true rfl) ?_
  refine w_8 _ _  () (fun x2_1328 H locs ls hP hD hS hl h => ?_) N _ _  _ _ _ hP hD hS (lv_sub hl [2, 3, 1, 0] rfl) h
  refine lv_aload_n hx hb dX4_polynomialAnew_36 rfl (lv_at hl 0 rfl) ?_
  refine lv_iload_n hx hb dX4_polynomialAnew_37 rfl (lv_at hl 1 rfl) ?_
  refine lv_iload_n hx hb dX4_polynomialAnew_38 rfl (lv_at hl 2 rfl) ?_
  obtain ⟨u_1329, hc_1330, h⟩ := bd_inv h
  refine wafter_i (wr := []) (w2 := (w_C G c0 l0 l1 l2 l3 m0 m1 m2 m3 m4 m5 r0 r1 r2 r3 g0 g_e l_a l_b l_c l_n m_x m_y m_d m_t m_v m_n r_s r_n r_w r_k)) (va_runV (As := [.int x1, .int x2_1328]) (rest := []) ⟨hx, hb, hml, hown, hts⟩ (kX4_numberWithPower (l := l) (G := G) c0 l0 l1 l2 l3 m0 m1 m2 m3 m4 m5 r0 r1 r2 r3 g0 g_e l_a l_b l_c l_n m_x m_y m_d m_t m_v m_n r_s r_n r_w r_k x1 x2_1328 N u_1329 hc_1330 _) (cwV 2 hts gX4_polynomialAnew_X4_numberWithPower rfl rfl rfl (by decide +kernel) ⟨Nat.le_of_ble_eq_true rfl, Nat.le_of_ble_eq_true rfl⟩) (wPreV hP hD hK [0, 1, 2, 3, 4, 5, 6, 7, 8, 9, 10, 11, 12, 13, 14, 15] rfl rfl (ci := 4) (qb := 0) rfl rfl rfl) rfl rfl hl.1 rfl (lv_room (Nat.le_of_ble_eq_true rfl)) dX4_polynomialAnew_39 ⟨Nat.le_of_ble_eq_true rfl, Nat.le_of_ble_eq_true rfl⟩) hP hD hS hA [0, 1, 2, 3, 4, 5, 6, 7, 8, 9, 10, 11, 12, 13, 14, 15] [] [0, 1, 2, 3, 4, 5, 6, 7, 8, 9, 10, 11, 12, 13, 14, 15] rfl rfl rfl (by decide) rfl rfl (fun H locs hP hD hS => ?_)
  obtain rfl := Option.some.inj h
  exact wrxi (ty := .int) (t0 := u_1329) hx hb hr hlocks hP hD hS (Nat.le_of_ble_eq_true rfl) (Nat.le_of_ble_eq_true rfl) rfl rfl dX4_polynomialAnew_42
def fX4_isPrime_b9 (N : Nat) (x0 : Int32) (x2 : Int32) : Nat → Int32 → Option (String ⊕ (Int32))
  | 0, _ => none
  | n + 1, x3 => if x2 ≤ x3 then zo 0 (some (.inr 0)) else rd primesF 11 x3 (fun v_1332 => if v_1332 = x0 then zo 1 (some (.inr 1)) else fX4_isPrime_b9 N x0 x2 n (x3 + 1))
def fX4_isPrime (N : Nat) (x0 : Int32) : Option (String ⊕ (Int32)) := fX4_isPrime_b9 N x0 11 N 0
set_option maxHeartbeats 4000000 in
set_option maxRecDepth 100000 in
theorem kX4_isPrime {l : Launch} (hst : l.stackTraces = false) {G : wG} (x0 : Int32) (N : Nat) (v : String ⊕ (Int32)) (h : fX4_isPrime N x0 = some v) : wXi l G yX4_isPrime wsX4_isPrime ({ frames := 0, cells := 0, slots := 0, locals := 0 } : Room) [.int x0] [] v (fun t : Int32 => []) (fun t : Int32 => t) 0 0 := by
  refine wXi.mk (cc := cX4_isPrime) (maxL := 5) (ty := .boolean) (by decide) rfl (Nat.le_of_ble_eq_true rfl) ?_
  intro p e s m below meth c A ls hx hb hml hr hlocks hts hown hK hA hP hD hT hnoh hl
  have hx : p.tables.exec = Jvm.exec := hx
  have hown : s.vm.findClass RX4 = some m.cls := hown
  have hS : va_S A s.heap s.heap [] := va_S.rf
  obtain ⟨pr, hZp, hTp⟩ := hT.2.2.2.2.1
  have hP : va_P G.1 vwCl [] s.heap := hP
  have hD : va_D A [] := hD
  have hl : lv_has ls 5 [(0, .int x0)] := hl
  obtain ⟨args, hargs⟩ : ∃ z : Array Value, z = ([.int x0] : List Value).toArray := ⟨_, rfl⟩
  rw [← hargs]
  rw [← hargs] at hts
  have w_9 : ∀ (x0 : Int32) (x2 : Int32)  (_z : Unit), ∀ (n : Nat) (x3 : Int32)  (H : Heap) (locs : List Loc) (ls : Array Slot), va_P G.1 vwCl [] H → va_D A [] → va_S A s.heap H locs → lv_has ls 5 [(0, .int x0), (1, .ref pr), (2, .int x2), (3, .int x3)] → fX4_isPrime_b9 N x0 x2 n x3 = some v → W p l e ({ frames := 0, cells := 0, slots := 0, locals := 0 } : Room) s m args below meth c H locs 0 0 (wQxi G A below args s [] v (fun t : Int32 => []) (fun t : Int32 => t) 0 0) (F0 m 9 ls []) := by
    intro x0 x2 _z n
    induction n with
    | zero =>
      intro x3 H locs ls hP hD hS hl h
      rw [fX4_isPrime_b9.eq_1] at h
      cases h
    | succ n ih =>
      intro x3 H locs ls hP hD hS hl h
      rw [fX4_isPrime_b9.eq_2] at h
      refine lv_iload_n hx hb dX4_isPrime_9 rfl (lv_at hl 3 rfl) ?_
      refine lv_iload_n hx hb dX4_isPrime_10 rfl (lv_at hl 2 rfl) ?_
      refine lv_icmp_ge (tgt := 33) hx hb dX4_isPrime_11 (by decide) (fun c_1331 => ?_) (fun c_1331 => ?_)
      · have h := ip c_1331 h
        refine lv_iconst (v := 0) hx hb dX4_isPrime_33 (by decide) ?_
        obtain ⟨hz, h⟩ := zo_inv h
        obtain rfl := Option.some.inj h
        exact wrxz (t0 := 0) hx hb hr hlocks hP hD hS (Nat.le_of_ble_eq_true rfl) (Nat.le_of_ble_eq_true rfl) hz rfl rfl dX4_isPrime_34
      · have h := iq c_1331 h
        refine lv_aload_n hx hb dX4_isPrime_14 rfl (lv_at hl 1 rfl) ?_
        refine lv_iload_n hx hb dX4_isPrime_15 rfl (lv_at hl 3 rfl) ?_
        refine wtiald h hx hb hTp hS dX4_isPrime_16 (fun v_1332 h => ?_)
        refine lv_istore (lv' := [(4, .int v_1332), (0, .int x0), (1, .ref pr), (2, .int x2), (3, .int x3)]) hx hb dX4_isPrime_17 hl (by decide) rfl (fun ls hl => ?_)
        refine lv_iload hx hb dX4_isPrime_19 (lv_at hl 0 rfl) ?_
        refine lv_iload_n hx hb dX4_isPrime_21 rfl (lv_at hl 1 rfl) ?_
        refine lv_icmp_ne (tgt := 27) hx hb dX4_isPrime_22 (by decide) (fun c_1333 => ?_) (fun c_1333 => ?_)
        · have h := iq c_1333 h
          refine lv_iinc (v := (x3 + 1)) (lv' := [(3, .int (x3 + 1)), (4, .int v_1332), (0, .int x0), (1, .ref pr), (2, .int x2)]) hx hb dX4_isPrime_27 hl (k := 4) rfl rfl (by decide) rfl (fun ls hl => ?_)
          refine lv_goto (tgt := 9) hx hb dX4_isPrime_30 (by decide) ?_
          exact ih _ _ _ _ hP hD hS (lv_sub hl [2, 3, 4, 0] rfl) h
        · have h := ip c_1333 h
          refine lv_iconst (v := 1) hx hb dX4_isPrime_25 (by decide) ?_
          obtain ⟨hz, h⟩ := zo_inv h
          obtain rfl := Option.some.inj h
          exact wrxz (t0 := 1) hx hb hr hlocks hP hD hS (Nat.le_of_ble_eq_true rfl) (Nat.le_of_ble_eq_true rfl) hz rfl rfl dX4_isPrime_26
  rw [fX4_isPrime.eq_1] at h
  refine va_gets hx hb hZp hS hown (hts (.fieldLink RX4 221 "Chamberwright" "PRIMES" "[I") (by decide +kernel)) (fun _ h9 => h9) dX4_isPrime_0 ?_
  refine lv_astore_n (lv' := [(1, .ref pr), (0, .int x0)]) hx hb dX4_isPrime_3 rfl hl (by decide) rfl (fun ls hl => ?_)
  refine lv_aload_n hx hb dX4_isPrime_4 rfl (lv_at hl 0 rfl) ?_
  refine va_tlen (v := 11) hx hb hTp hS rfl dX4_isPrime_5 ?_
  refine lv_istore_n (lv' := [(2, .int 11), (1, .ref pr), (0, .int x0)]) hx hb dX4_isPrime_6 rfl hl (by decide) rfl (fun ls hl => ?_)
  refine lv_iconst (v := 0) hx hb dX4_isPrime_7 (by decide) ?_
  refine lv_istore_n (lv' := [(3, .int 0), (2, .int 11), (1, .ref pr), (0, .int x0)]) hx hb dX4_isPrime_8 rfl hl (by decide) rfl (fun ls hl => ?_)
  refine W.widen (k := 0) (n := 0) (Nat.le_of_ble_eq_true rfl) (Nat.le_of_ble_eq_true rfl) ?_
  exact w_9  _ _  ()  N _  _ _ _ hP hD hS (lv_sub hl [3, 2, 1, 0] rfl) h
def fX4_points_b29 (N : Nat) (l_a : Nat → Int32) (l_b : Nat → Int32) (l_c : Nat → Int32) (l_n : Int32) (x1 : Int32) (x3 : Int32) (k_58 : Int32 → Option (String ⊕ (Int32))) : Nat → Int32 → Int32 → Option (String ⊕ (Int32))
  | 0, _, _ => none
  | n + 1, x2, x4 => if x1 ≤ x4 then k_58 x2 else bd (fX1_isAnyOver N l_a l_b l_c l_n x1 x3 x4) (fun u_1335 => if u_1335 = 0 then fX4_points_b29 N l_a l_b l_c l_n x1 x3 k_58 n (x2 + 1) (x4 + 1) else fX4_points_b29 N l_a l_b l_c l_n x1 x3 k_58 n x2 (x4 + 1))
def fX4_points_b21 (N : Nat) (l_a : Nat → Int32) (l_b : Nat → Int32) (l_c : Nat → Int32) (l_n : Int32) (x1 : Int32) : Nat → Int32 → Int32 → Option (String ⊕ (Int32))
  | 0, _, _ => none
  | n + 1, x2, x3 => if x1 ≤ x3 then some (.inr x2) else fX4_points_b29 N l_a l_b l_c l_n x1 x3 (fun (x2_1339 : Int32) => fX4_points_b21 N l_a l_b l_c l_n x1 n x2_1339 (x3 + 1)) N x2 0
def fX4_points (N : Nat) (l_a : Nat → Int32) (l_b : Nat → Int32) (l_c : Nat → Int32) (l_n : Int32) (x1 : Int32) : Option (String ⊕ (Int32)) := bdx (fX4_isPrime N x1) (fun u_1340 => if u_1340 = 0 then some (.inl xIAE) else fX4_points_b21 N l_a l_b l_c l_n x1 N 0 0)
set_option maxHeartbeats 4000000 in
set_option maxRecDepth 100000 in
theorem kX4_points {l : Launch} (hst : l.stackTraces = false) {G : wG} (c0 l0 l1 l2 l3 m0 m1 m2 m3 m4 m5 r0 r1 r2 r3 g0 : Nat) (g_e : Int64) (l_a : Nat → Int32) (l_b : Nat → Int32) (l_c : Nat → Int32) (l_n : Int32) (m_x : Nat → Int32) (m_y : Nat → Int32) (m_d : Nat → Int32) (m_t : Nat → Int32) (m_v : Nat → Int32) (m_n : Int32) (r_s : Nat → Int32) (r_n : Nat → Int32) (r_w : Nat → Int32) (r_k : Int32) (x1 : Int32) (N : Nat) (v : String ⊕ (Int32)) (h : fX4_points N l_a l_b l_c l_n x1 = some v) : wXi l G yX4_points wsX4_points ({ frames := 6, cells := 4, slots := 24, locals := 100 } : Room) [.ref c0, .int x1] (w_C G c0 l0 l1 l2 l3 m0 m1 m2 m3 m4 m5 r0 r1 r2 r3 g0 g_e l_a l_b l_c l_n m_x m_y m_d m_t m_v m_n r_s r_n r_w r_k) v (fun t : Int32 => (w_C G c0 l0 l1 l2 l3 m0 m1 m2 m3 m4 m5 r0 r1 r2 r3 g0 g_e l_a l_b l_c l_n m_x m_y m_d m_t m_v m_n r_s r_n r_w r_k)) (fun t : Int32 => t) 4 24 := by
  refine wXi.mk (cc := cX4_points) (maxL := 5) (ty := .int) (by decide) rfl (Nat.le_of_ble_eq_true rfl) ?_
  intro p e s m below meth c A ls hx hb hml hr hlocks hts hown hK hA hP hD hT hnoh hl
  have hx : p.tables.exec = Jvm.exec := hx
  have hown : s.vm.findClass RX4 = some m.cls := hown
  have hinX4 : ∀ w ∈ wsX40, w ∈ wsX4_points := by decide +kernel
  have lk10 := hts (.fieldLink RX4 10 "Chamberwright" "lines" "LChamberwright$Lines;") (by decide +kernel)
  have lxIAE := hts (.classLink RX4 41 xIAE) (by decide +kernel)
  have iniIAE := hts (.initialized xIAE) (by decide +kernel)
  have gwIAE : ∀ w ∈ (vx_atS RX4 45 xIAE xNms).filter goodWord, w.before _ s = true := fun w hw => hts w ((by decide +kernel : ∀ w ∈ (vx_atS RX4 45 xIAE xNms).filter goodWord, w ∈ wsX4_points) w hw)
  have hS : va_S A s.heap s.heap [] := va_S.rf
  have hP : va_P G.1 vwCl (w_C G c0 l0 l1 l2 l3 m0 m1 m2 m3 m4 m5 r0 r1 r2 r3 g0 g_e l_a l_b l_c l_n m_x m_y m_d m_t m_v m_n r_s r_n r_w r_k) s.heap := hP
  have hD : va_D A (w_C G c0 l0 l1 l2 l3 m0 m1 m2 m3 m4 m5 r0 r1 r2 r3 g0 g_e l_a l_b l_c l_n m_x m_y m_d m_t m_v m_n r_s r_n r_w r_k) := hD
  have hl : lv_has ls 5 [(0, .ref c0), (1, .int x1)] := hl
  obtain ⟨args, hargs⟩ : ∃ z : Array Value, z = ([.ref c0, .int x1] : List Value).toArray := ⟨_, rfl⟩
  rw [← hargs]
  rw [← hargs] at hts
  rw [← hargs] at lxIAE iniIAE gwIAE
  have w_29 : ∀ (k_58 : Int32 → Option (String ⊕ (Int32))) (x1 : Int32) (x3 : Int32)  (_z : Unit), (∀ (y2 : Int32) (H : Heap) (locs : List Loc) (ls : Array Slot), va_P G.1 vwCl (w_C G c0 l0 l1 l2 l3 m0 m1 m2 m3 m4 m5 r0 r1 r2 r3 g0 g_e l_a l_b l_c l_n m_x m_y m_d m_t m_v m_n r_s r_n r_w r_k) H → va_D A (w_C G c0 l0 l1 l2 l3 m0 m1 m2 m3 m4 m5 r0 r1 r2 r3 g0 g_e l_a l_b l_c l_n m_x m_y m_d m_t m_v m_n r_s r_n r_w r_k) → va_S A s.heap H locs → lv_has ls 5 [(0, .ref c0), (1, .int x1), (2, .int y2), (3, .int x3)] → k_58 y2 = some v → W p l e ({ frames := 6, cells := 4, slots := 24, locals := 100 } : Room) s m args below meth c H locs 3 18 (wQxi G A below args s (w_C G c0 l0 l1 l2 l3 m0 m1 m2 m3 m4 m5 r0 r1 r2 r3 g0 g_e l_a l_b l_c l_n m_x m_y m_d m_t m_v m_n r_s r_n r_w r_k) v (fun t : Int32 => (w_C G c0 l0 l1 l2 l3 m0 m1 m2 m3 m4 m5 r0 r1 r2 r3 g0 g_e l_a l_b l_c l_n m_x m_y m_d m_t m_v m_n r_s r_n r_w r_k)) (fun t : Int32 => t) 4 24) (F0 m 58 ls [])) → ∀ (n : Nat) (x2 : Int32) (x4 : Int32)  (H : Heap) (locs : List Loc) (ls : Array Slot), va_P G.1 vwCl (w_C G c0 l0 l1 l2 l3 m0 m1 m2 m3 m4 m5 r0 r1 r2 r3 g0 g_e l_a l_b l_c l_n m_x m_y m_d m_t m_v m_n r_s r_n r_w r_k) H → va_D A (w_C G c0 l0 l1 l2 l3 m0 m1 m2 m3 m4 m5 r0 r1 r2 r3 g0 g_e l_a l_b l_c l_n m_x m_y m_d m_t m_v m_n r_s r_n r_w r_k) → va_S A s.heap H locs → lv_has ls 5 [(0, .ref c0), (1, .int x1), (2, .int x2), (3, .int x3), (4, .int x4)] → fX4_points_b29 N l_a l_b l_c l_n x1 x3 k_58 n x2 x4 = some v → W p l e ({ frames := 6, cells := 4, slots := 24, locals := 100 } : Room) s m args below meth c H locs 3 18 (wQxi G A below args s (w_C G c0 l0 l1 l2 l3 m0 m1 m2 m3 m4 m5 r0 r1 r2 r3 g0 g_e l_a l_b l_c l_n m_x m_y m_d m_t m_v m_n r_s r_n r_w r_k) v (fun t : Int32 => (w_C G c0 l0 l1 l2 l3 m0 m1 m2 m3 m4 m5 r0 r1 r2 r3 g0 g_e l_a l_b l_c l_n m_x m_y m_d m_t m_v m_n r_s r_n r_w r_k)) (fun t : Int32 => t) 4 24) (F0 m 29 ls []) := by
    intro k_58 x1 x3 _z hk_58 n
    induction n with
    | zero =>
      intro x2 x4 H locs ls hP hD hS hl h
      rw [fX4_points_b29.eq_1] at h
      cases h
    | succ n ih =>
      intro x2 x4 H locs ls hP hD hS hl h
      rw [fX4_points_b29.eq_2] at h
      refine lv_iload hx hb dX4_points_29 (lv_at hl 4 rfl) ?_
      refine lv_iload_n hx hb dX4_points_31 rfl (lv_at hl 1 rfl) ?_
      refine lv_icmp_ge (tgt := 58) hx hb dX4_points_32 (by decide) (fun c_1334 => ?_) (fun c_1334 => ?_)
      · have h := ip c_1334 h
        exact hk_58 _ _ _ _ hP hD hS (lv_sub hl [0, 1, 2, 3] rfl) h
      · have h := iq c_1334 h
        refine lv_aload_n hx hb dX4_points_35 rfl (lv_at hl 0 rfl) ?_
        refine va_get (D := G.1) (ci := 4) (v := .ref l0) (C := RX4) (T := TX4) (N := 4) hx hb hts hinX4 hown hK.1 hP 0 rfl rfl 0 (by decide) lk10 (fun _ h9 => h9) rfl dX4_points_36 ?_
        refine lv_iload_n hx hb dX4_points_39 rfl (lv_at hl 1 rfl) ?_
        refine lv_iload_n hx hb dX4_points_40 rfl (lv_at hl 3 rfl) ?_
        refine lv_iload hx hb dX4_points_41 (lv_at hl 4 rfl) ?_
        obtain ⟨u_1335, hc_1336, h⟩ := bd_inv h
        refine wafter_i (wr := [(c0, .inr (4, [.ref l0, .ref m0, .ref r0, .ref g0])), (m0, .inr (2, [.ref m1, .ref m2, .ref m3, .ref m4, .ref m5, .int m_n])), (m1, .inl (G.2.1, 36, .inl m_x)), (m2, .inl (G.2.1, 36, .inl m_y)), (m3, .inl (G.2.1, 36, .inl m_d)), (m4, .inl (G.2.1, 36, .inl m_t)), (m5, .inl (G.2.1, 36, .inl m_v)), (r0, .inr (3, [.ref r1, .ref r2, .ref r3, .int r_k])), (r1, .inl (G.2.1, 46, .inl r_s)), (r2, .inl (G.2.1, 512, .inl r_n)), (r3, .inl (G.2.1, 512, .inl r_w)), (g0, .inr (0, [.long g_e]))]) (w2 := (w_C G c0 l0 l1 l2 l3 m0 m1 m2 m3 m4 m5 r0 r1 r2 r3 g0 g_e l_a l_b l_c l_n m_x m_y m_d m_t m_v m_n r_s r_n r_w r_k)) (va_runV (As := [.int x1, .int x3, .int x4]) (rest := []) ⟨hx, hb, hml, hown, hts⟩ (kX1_isAnyOver (l := l) (G := G) l0 l1 l2 l3 l_a l_b l_c l_n x1 x3 x4 N u_1335 hc_1336 _) (cwV 3 hts gX4_points_X1_isAnyOver rfl rfl rfl (by decide +kernel) ⟨Nat.le_of_ble_eq_true rfl, Nat.le_of_ble_eq_true rfl⟩) (wPreV hP hD hK [1, 2, 3, 4] rfl rfl (ci := 1) (qb := 1) rfl rfl rfl) rfl rfl hl.1 rfl (lv_room (Nat.le_of_ble_eq_true rfl)) dX4_points_43 ⟨Nat.le_of_ble_eq_true rfl, Nat.le_of_ble_eq_true rfl⟩) hP hD hS hA [1, 2, 3, 4] [0, 5, 6, 7, 8, 9, 10, 11, 12, 13, 14, 15] [0, 12, 13, 14, 15, 1, 2, 3, 4, 5, 6, 7, 8, 9, 10, 11] rfl rfl rfl (by decide) rfl rfl (fun H locs hP hD hS => ?_)
        refine lv_if_ne (tgt := 52) hx hb dX4_points_46 (by decide) (fun c_1337 => ?_) (fun c_1337 => ?_)
        · have h := iq c_1337 h
          refine lv_iinc (v := (x4 + 1)) (lv' := [(4, .int (x4 + 1)), (0, .ref c0), (1, .int x1), (2, .int x2), (3, .int x3)]) hx hb dX4_points_52 hl (k := 4) rfl rfl (by decide) rfl (fun ls hl => ?_)
          refine lv_goto (tgt := 29) hx hb dX4_points_55 (by decide) ?_
          exact ih _ _ _ _ _ hP hD hS (lv_sub hl [1, 2, 3, 4, 0] rfl) h
        · have h := ip c_1337 h
          refine lv_iinc (v := (x2 + 1)) (lv' := [(2, .int (x2 + 1)), (0, .ref c0), (1, .int x1), (3, .int x3), (4, .int x4)]) hx hb dX4_points_49 hl (k := 2) rfl rfl (by decide) rfl (fun ls hl => ?_)
          refine lv_iinc (v := (x4 + 1)) (lv' := [(4, .int (x4 + 1)), (2, .int (x2 + 1)), (0, .ref c0), (1, .int x1), (3, .int x3)]) hx hb dX4_points_52 hl (k := 4) rfl rfl (by decide) rfl (fun ls hl => ?_)
          refine lv_goto (tgt := 29) hx hb dX4_points_55 (by decide) ?_
          exact ih _ _ _ _ _ hP hD hS (lv_sub hl [2, 3, 1, 4, 0] rfl) h
  have w_21 : ∀ (x1 : Int32)  (_z : Unit), ∀ (n : Nat) (x2 : Int32) (x3 : Int32)  (H : Heap) (locs : List Loc) (ls : Array Slot), va_P G.1 vwCl (w_C G c0 l0 l1 l2 l3 m0 m1 m2 m3 m4 m5 r0 r1 r2 r3 g0 g_e l_a l_b l_c l_n m_x m_y m_d m_t m_v m_n r_s r_n r_w r_k) H → va_D A (w_C G c0 l0 l1 l2 l3 m0 m1 m2 m3 m4 m5 r0 r1 r2 r3 g0 g_e l_a l_b l_c l_n m_x m_y m_d m_t m_v m_n r_s r_n r_w r_k) → va_S A s.heap H locs → lv_has ls 5 [(0, .ref c0), (1, .int x1), (2, .int x2), (3, .int x3)] → fX4_points_b21 N l_a l_b l_c l_n x1 n x2 x3 = some v → W p l e ({ frames := 6, cells := 4, slots := 24, locals := 100 } : Room) s m args below meth c H locs 3 18 (wQxi G A below args s (w_C G c0 l0 l1 l2 l3 m0 m1 m2 m3 m4 m5 r0 r1 r2 r3 g0 g_e l_a l_b l_c l_n m_x m_y m_d m_t m_v m_n r_s r_n r_w r_k) v (fun t : Int32 => (w_C G c0 l0 l1 l2 l3 m0 m1 m2 m3 m4 m5 r0 r1 r2 r3 g0 g_e l_a l_b l_c l_n m_x m_y m_d m_t m_v m_n r_s r_n r_w r_k)) (fun t : Int32 => t) 4 24) (F0 m 21 ls []) := by
    intro x1 _z n
    induction n with
    | zero =>
      intro x2 x3 H locs ls hP hD hS hl h
      rw [fX4_points_b21.eq_1] at h
      cases h
    | succ n ih =>
      intro x2 x3 H locs ls hP hD hS hl h
      rw [fX4_points_b21.eq_2] at h
      refine lv_iload_n hx hb dX4_points_21 rfl (lv_at hl 3 rfl) ?_
      refine lv_iload_n hx hb dX4_points_22 rfl (lv_at hl 1 rfl) ?_
      refine lv_icmp_ge (tgt := 64) hx hb dX4_points_23 (by decide) (fun c_1338 => ?_) (fun c_1338 => ?_)
      · have h := ip c_1338 h
        refine lv_iload_n hx hb dX4_points_64 rfl (lv_at hl 2 rfl) ?_
        obtain rfl := Option.some.inj h
        exact wrxi (ty := .int) (t0 := x2) hx hb hr hlocks hP hD hS (Nat.le_of_ble_eq_true rfl) (Nat.le_of_ble_eq_true rfl) rfl rfl dX4_points_65
      · have h := iq c_1338 h
        refine lv_iconst (v := 0) hx hb dX4_points_26 (by decide) ?_
        refine lv_istore (lv' := [(4, .int 0), (0, .ref c0), (1, .int x1), (2, .int x2), (3, .int x3)]) hx hb dX4_points_27 hl (by decide) rfl (fun ls hl => ?_)
        refine w_29 _ _ _  () (fun x2_1339 H locs ls hP hD hS hl h => ?_) N _ _  _ _ _ hP hD hS (lv_sub hl [1, 2, 3, 4, 0] rfl) h
        refine lv_iinc (v := (x3 + 1)) (lv' := [(3, .int (x3 + 1)), (0, .ref c0), (1, .int x1), (2, .int x2_1339)]) hx hb dX4_points_58 hl (k := 3) rfl rfl (by decide) rfl (fun ls hl => ?_)
        refine lv_goto (tgt := 21) hx hb dX4_points_61 (by decide) ?_
        exact ih _ _ _ _ _ hP hD hS (lv_sub hl [1, 2, 3, 0] rfl) h
  rw [fX4_points.eq_1] at h
  refine lv_iload_n hx hb dX4_points_0 rfl (lv_at hl 1 rfl) ?_
  obtain ⟨x_u_1340, hc_1341, hx_u_1340, h⟩ := bdx_inv h
  refine wafterx_i (wr := (w_C G c0 l0 l1 l2 l3 m0 m1 m2 m3 m4 m5 r0 r1 r2 r3 g0 g_e l_a l_b l_c l_n m_x m_y m_d m_t m_v m_n r_s r_n r_w r_k)) (vx_runS (As := [.int x1]) (rest := []) ⟨hx, hb, hml, hown, hts⟩ (kX4_isPrime (l := l) hst (G := G)   x1 N x_u_1340 hc_1341 _) (va_cwS 1 hts gX4_points_X4_isPrime rfl rfl rfl (by decide +kernel) ⟨Nat.le_of_ble_eq_true rfl, Nat.le_of_ble_eq_true rfl⟩) (wPreSX hP hD hK hS hA hT [] rfl rfl) rfl rfl hl.1 rfl (lv_room (Nat.le_of_ble_eq_true rfl)) dX4_points_1 ⟨(Nat.le_of_ble_eq_true rfl), (Nat.le_of_ble_eq_true rfl)⟩) hP hD hS hA [] [0, 1, 2, 3, 4, 5, 6, 7, 8, 9, 10, 11, 12, 13, 14, 15] [0, 1, 2, 3, 4, 5, 6, 7, 8, 9, 10, 11, 12, 13, 14, 15] rfl rfl rfl (by decide) rfl rfl (fun E ce q9 H locs he hP hD hS hce hcv hcl => wpass_i hnoh hlocks hP hD hS hce hcv hcl (hx_u_1340 E he) (Nat.le_of_ble_eq_true rfl) (Nat.le_of_ble_eq_true rfl)) (fun u_1340 H locs hu hP hD hS => ?_)
  have h := h u_1340 hu
  have hP : va_P G.1 vwCl (w_C G c0 l0 l1 l2 l3 m0 m1 m2 m3 m4 m5 r0 r1 r2 r3 g0 g_e l_a l_b l_c l_n m_x m_y m_d m_t m_v m_n r_s r_n r_w r_k) H := hP.sub [0, 1, 2, 3, 4, 5, 6, 7, 8, 9, 10, 11, 12, 13, 14, 15] rfl
  have hD : va_D A (w_C G c0 l0 l1 l2 l3 m0 m1 m2 m3 m4 m5 r0 r1 r2 r3 g0 g_e l_a l_b l_c l_n m_x m_y m_d m_t m_v m_n r_s r_n r_w r_k) := hD.sub [0, 1, 2, 3, 4, 5, 6, 7, 8, 9, 10, 11, 12, 13, 14, 15] rfl rfl
  refine lv_if_ne (tgt := 17) hx hb dX4_points_4 (by decide) (fun c_1342 => ?_) (fun c_1342 => ?_)
  · have h := iq c_1342 h
    refine lv_iconst (v := 0) hx hb dX4_points_17 (by decide) ?_
    refine lv_istore_n (lv' := [(2, .int 0), (0, .ref c0), (1, .int x1)]) hx hb dX4_points_18 rfl hl (by decide) rfl (fun ls hl => ?_)
    refine lv_iconst (v := 0) hx hb dX4_points_19 (by decide) ?_
    refine lv_istore_n (lv' := [(3, .int 0), (2, .int 0), (0, .ref c0), (1, .int x1)]) hx hb dX4_points_20 rfl hl (by decide) rfl (fun ls hl => ?_)
    refine W.widen (k := 3) (n := 18) (Nat.le_of_ble_eq_true rfl) (Nat.le_of_ble_eq_true rfl) ?_
    exact w_21  _  ()  N _ _  _ _ _ hP hD hS (lv_sub hl [2, 3, 1, 0] rfl) h
  · have h := ip c_1342 h
    obtain rfl := Option.some.inj h
    exact wthrow_i (cls := xIAE) (text := "a prime is a prime number from 2 to 31") hx hb hst hown (by decide +kernel) lxIAE iniIAE hT (by decide +kernel) gwIAE xng_IAE xot_IAE hP hD hS (hl.1.trans hml.symm) dX4_points_7 dX4_points_10 dX4_points_11 dX4_points_13 dX4_points_16 hnoh hlocks (Nat.le_of_ble_eq_true rfl) (Nat.le_of_ble_eq_true rfl) (Nat.le_of_ble_eq_true rfl) (Nat.le_of_ble_eq_true rfl) (Nat.le_of_ble_eq_true rfl) (Nat.le_of_ble_eq_true rfl) rfl
def fX4_rooms (N : Nat) (r_k : Int32) : Option (Int32) := bd (fX3_count N r_k) (fun u_1343 => some u_1343)
set_option maxHeartbeats 4000000 in
set_option maxRecDepth 100000 in
theorem kX4_rooms {l : Launch} {G : wG} (c0 l0 l1 l2 l3 m0 m1 m2 m3 m4 m5 r0 r1 r2 r3 g0 : Nat) (g_e : Int64) (l_a : Nat → Int32) (l_b : Nat → Int32) (l_c : Nat → Int32) (l_n : Int32) (m_x : Nat → Int32) (m_y : Nat → Int32) (m_d : Nat → Int32) (m_t : Nat → Int32) (m_v : Nat → Int32) (m_n : Int32) (r_s : Nat → Int32) (r_n : Nat → Int32) (r_w : Nat → Int32) (r_k : Int32) (N : Nat) (v : Int32) (h : fX4_rooms N r_k = some v) : wCi l G yX4_rooms wsX4_rooms ({ frames := 1, cells := 0, slots := 0, locals := 20 } : Room) [.ref c0] (w_C G c0 l0 l1 l2 l3 m0 m1 m2 m3 m4 m5 r0 r1 r2 r3 g0 g_e l_a l_b l_c l_n m_x m_y m_d m_t m_v m_n r_s r_n r_w r_k) (w_C G c0 l0 l1 l2 l3 m0 m1 m2 m3 m4 m5 r0 r1 r2 r3 g0 g_e l_a l_b l_c l_n m_x m_y m_d m_t m_v m_n r_s r_n r_w r_k) 0 0 v := by
  refine wCi.mk (cc := cX4_rooms) (maxL := 1) (ty := .int) (by decide) rfl (Nat.le_of_ble_eq_true rfl) ?_
  intro p e s m below meth c A ls hx hb hml hr hlocks hts hown hK hA hP hD hl
  have hx : p.tables.exec = Jvm.exec := hx
  have hown : s.vm.findClass RX4 = some m.cls := hown
  have hinX4 : ∀ w ∈ wsX40, w ∈ wsX4_rooms := by decide +kernel
  have lk26 := hts (.fieldLink RX4 26 "Chamberwright" "rooms" "LChamberwright$Rooms;") (by decide +kernel)
  have hS : va_S A s.heap s.heap [] := va_S.rf
  have hP : va_P G.1 vwCl (w_C G c0 l0 l1 l2 l3 m0 m1 m2 m3 m4 m5 r0 r1 r2 r3 g0 g_e l_a l_b l_c l_n m_x m_y m_d m_t m_v m_n r_s r_n r_w r_k) s.heap := hP
  have hD : va_D A (w_C G c0 l0 l1 l2 l3 m0 m1 m2 m3 m4 m5 r0 r1 r2 r3 g0 g_e l_a l_b l_c l_n m_x m_y m_d m_t m_v m_n r_s r_n r_w r_k) := hD
  have hl : lv_has ls 1 [(0, .ref c0)] := hl
  obtain ⟨args, hargs⟩ : ∃ z : Array Value, z = ([.ref c0] : List Value).toArray := ⟨_, rfl⟩
  rw [← hargs]
  rw [← hargs] at hts
  rw [fX4_rooms.eq_1] at h
  refine lv_aload_n hx hb dX4_rooms_0 rfl (lv_at hl 0 rfl) ?_
  refine va_get (D := G.1) (ci := 4) (v := .ref r0) (C := RX4) (T := TX4) (N := 4) hx hb hts hinX4 hown hK.1 hP 0 rfl rfl 2 (by decide) lk26 (fun _ h9 => h9) rfl dX4_rooms_1 ?_
  obtain ⟨u_1343, hc_1344, h⟩ := bd_inv h
  refine wafter_i (wr := [(c0, .inr (4, [.ref l0, .ref m0, .ref r0, .ref g0])), (l0, .inr (1, [.ref l1, .ref l2, .ref l3, .int l_n])), (l1, .inl (G.2.1, 9, .inl l_a)), (l2, .inl (G.2.1, 9, .inl l_b)), (l3, .inl (G.2.1, 9, .inl l_c)), (m0, .inr (2, [.ref m1, .ref m2, .ref m3, .ref m4, .ref m5, .int m_n])), (m1, .inl (G.2.1, 36, .inl m_x)), (m2, .inl (G.2.1, 36, .inl m_y)), (m3, .inl (G.2.1, 36, .inl m_d)), (m4, .inl (G.2.1, 36, .inl m_t)), (m5, .inl (G.2.1, 36, .inl m_v)), (g0, .inr (0, [.long g_e]))]) (w2 := (w_C G c0 l0 l1 l2 l3 m0 m1 m2 m3 m4 m5 r0 r1 r2 r3 g0 g_e l_a l_b l_c l_n m_x m_y m_d m_t m_v m_n r_s r_n r_w r_k)) (va_runV (As := []) (rest := []) ⟨hx, hb, hml, hown, hts⟩ (kX3_count (l := l) (G := G) r0 r1 r2 r3 r_s r_n r_w r_k  N u_1343 hc_1344 _) (cwV 0 hts gX4_rooms_X3_count rfl rfl rfl (by decide +kernel) ⟨Nat.le_of_ble_eq_true rfl, Nat.le_of_ble_eq_true rfl⟩) (wPreV hP hD hK [11, 12, 13, 14] rfl rfl (ci := 3) (qb := 11) rfl rfl rfl) rfl rfl hl.1 rfl (lv_room (Nat.le_of_ble_eq_true rfl)) dX4_rooms_4 ⟨Nat.zero_le _, Nat.zero_le _⟩) hP hD hS hA [11, 12, 13, 14] [0, 1, 2, 3, 4, 5, 6, 7, 8, 9, 10, 15] [0, 1, 2, 3, 4, 5, 6, 7, 8, 9, 10, 12, 13, 14, 15, 11] rfl rfl rfl (by decide) rfl rfl (fun H locs hP hD hS => ?_)
  obtain rfl := Option.some.inj h
  exact wri hx hb hr hlocks hP hD hS (Nat.le_of_ble_eq_true rfl) (Nat.le_of_ble_eq_true rfl) rfl dX4_rooms_7
def fX4_bounded_b4 (N : Nat) (l_a : Nat → Int32) (l_b : Nat → Int32) (l_n : Int32) (r_s : Nat → Int32) (r_k : Int32) : Nat → Int32 → Int32 → Option (Int32)
  | 0, _, _ => none
  | n + 1, x1, x2 => bd (fX3_count N r_k) (fun u_1345 => if u_1345 ≤ x2 then some x1 else bd (fX3_isBounded N l_a l_b l_n r_s x2) (fun u_1348 => if u_1348 = 0 then fX4_bounded_b4 N l_a l_b l_n r_s r_k n x1 (x2 + 1) else fX4_bounded_b4 N l_a l_b l_n r_s r_k n (x1 + 1) (x2 + 1)))
def fX4_bounded (N : Nat) (l_a : Nat → Int32) (l_b : Nat → Int32) (l_n : Int32) (r_s : Nat → Int32) (r_k : Int32) : Option (Int32) := fX4_bounded_b4 N l_a l_b l_n r_s r_k N 0 0
set_option maxHeartbeats 4000000 in
set_option maxRecDepth 100000 in
theorem kX4_bounded {l : Launch} {G : wG} (c0 l0 l1 l2 l3 m0 m1 m2 m3 m4 m5 r0 r1 r2 r3 g0 : Nat) (g_e : Int64) (l_a : Nat → Int32) (l_b : Nat → Int32) (l_c : Nat → Int32) (l_n : Int32) (m_x : Nat → Int32) (m_y : Nat → Int32) (m_d : Nat → Int32) (m_t : Nat → Int32) (m_v : Nat → Int32) (m_n : Int32) (r_s : Nat → Int32) (r_n : Nat → Int32) (r_w : Nat → Int32) (r_k : Int32) (N : Nat) (v : Int32) (h : fX4_bounded N l_a l_b l_n r_s r_k = some v) : wCi l G yX4_bounded wsX4_bounded ({ frames := 4, cells := 0, slots := 0, locals := 91 } : Room) [.ref c0] (w_C G c0 l0 l1 l2 l3 m0 m1 m2 m3 m4 m5 r0 r1 r2 r3 g0 g_e l_a l_b l_c l_n m_x m_y m_d m_t m_v m_n r_s r_n r_w r_k) (w_C G c0 l0 l1 l2 l3 m0 m1 m2 m3 m4 m5 r0 r1 r2 r3 g0 g_e l_a l_b l_c l_n m_x m_y m_d m_t m_v m_n r_s r_n r_w r_k) 0 0 v := by
  refine wCi.mk (cc := cX4_bounded) (maxL := 3) (ty := .int) (by decide) rfl (Nat.le_of_ble_eq_true rfl) ?_
  intro p e s m below meth c A ls hx hb hml hr hlocks hts hown hK hA hP hD hl
  have hx : p.tables.exec = Jvm.exec := hx
  have hown : s.vm.findClass RX4 = some m.cls := hown
  have hinX4 : ∀ w ∈ wsX40, w ∈ wsX4_bounded := by decide +kernel
  have lk10 := hts (.fieldLink RX4 10 "Chamberwright" "lines" "LChamberwright$Lines;") (by decide +kernel)
  have lk26 := hts (.fieldLink RX4 26 "Chamberwright" "rooms" "LChamberwright$Rooms;") (by decide +kernel)
  have hS : va_S A s.heap s.heap [] := va_S.rf
  have hP : va_P G.1 vwCl (w_C G c0 l0 l1 l2 l3 m0 m1 m2 m3 m4 m5 r0 r1 r2 r3 g0 g_e l_a l_b l_c l_n m_x m_y m_d m_t m_v m_n r_s r_n r_w r_k) s.heap := hP
  have hD : va_D A (w_C G c0 l0 l1 l2 l3 m0 m1 m2 m3 m4 m5 r0 r1 r2 r3 g0 g_e l_a l_b l_c l_n m_x m_y m_d m_t m_v m_n r_s r_n r_w r_k) := hD
  have hl : lv_has ls 3 [(0, .ref c0)] := hl
  obtain ⟨args, hargs⟩ : ∃ z : Array Value, z = ([.ref c0] : List Value).toArray := ⟨_, rfl⟩
  rw [← hargs]
  rw [← hargs] at hts
  have w_4 : ∀   (_z : Unit), ∀ (n : Nat) (x1 : Int32) (x2 : Int32)  (H : Heap) (locs : List Loc) (ls : Array Slot), va_P G.1 vwCl (w_C G c0 l0 l1 l2 l3 m0 m1 m2 m3 m4 m5 r0 r1 r2 r3 g0 g_e l_a l_b l_c l_n m_x m_y m_d m_t m_v m_n r_s r_n r_w r_k) H → va_D A (w_C G c0 l0 l1 l2 l3 m0 m1 m2 m3 m4 m5 r0 r1 r2 r3 g0 g_e l_a l_b l_c l_n m_x m_y m_d m_t m_v m_n r_s r_n r_w r_k) → va_S A s.heap H locs → lv_has ls 3 [(0, .ref c0), (1, .int x1), (2, .int x2)] → fX4_bounded_b4 N l_a l_b l_n r_s r_k n x1 x2 = some v → W p l e ({ frames := 4, cells := 0, slots := 0, locals := 91 } : Room) s m args below meth c H locs 0 0 (wQi G A below args s (w_C G c0 l0 l1 l2 l3 m0 m1 m2 m3 m4 m5 r0 r1 r2 r3 g0 g_e l_a l_b l_c l_n m_x m_y m_d m_t m_v m_n r_s r_n r_w r_k) 0 0 v) (F0 m 4 ls []) := by
    intro _z n
    induction n with
    | zero =>
      intro x1 x2 H locs ls hP hD hS hl h
      rw [fX4_bounded_b4.eq_1] at h
      cases h
    | succ n ih =>
      intro x1 x2 H locs ls hP hD hS hl h
      rw [fX4_bounded_b4.eq_2] at h
      refine lv_iload_n hx hb dX4_bounded_4 rfl (lv_at hl 2 rfl) ?_
      refine lv_aload_n hx hb dX4_bounded_5 rfl (lv_at hl 0 rfl) ?_
      refine va_get (D := G.1) (ci := 4) (v := .ref r0) (C := RX4) (T := TX4) (N := 4) hx hb hts hinX4 hown hK.1 hP 0 rfl rfl 2 (by decide) lk26 (fun _ h9 => h9) rfl dX4_bounded_6 ?_
      obtain ⟨u_1345, hc_1346, h⟩ := bd_inv h
      refine wafter_i (wr := [(c0, .inr (4, [.ref l0, .ref m0, .ref r0, .ref g0])), (l0, .inr (1, [.ref l1, .ref l2, .ref l3, .int l_n])), (l1, .inl (G.2.1, 9, .inl l_a)), (l2, .inl (G.2.1, 9, .inl l_b)), (l3, .inl (G.2.1, 9, .inl l_c)), (m0, .inr (2, [.ref m1, .ref m2, .ref m3, .ref m4, .ref m5, .int m_n])), (m1, .inl (G.2.1, 36, .inl m_x)), (m2, .inl (G.2.1, 36, .inl m_y)), (m3, .inl (G.2.1, 36, .inl m_d)), (m4, .inl (G.2.1, 36, .inl m_t)), (m5, .inl (G.2.1, 36, .inl m_v)), (g0, .inr (0, [.long g_e]))]) (w2 := (w_C G c0 l0 l1 l2 l3 m0 m1 m2 m3 m4 m5 r0 r1 r2 r3 g0 g_e l_a l_b l_c l_n m_x m_y m_d m_t m_v m_n r_s r_n r_w r_k)) (va_runV (As := []) (rest := [.int x2]) ⟨hx, hb, hml, hown, hts⟩ (kX3_count (l := l) (G := G) r0 r1 r2 r3 r_s r_n r_w r_k  N u_1345 hc_1346 _) (cwV 0 hts gX4_bounded_X3_count rfl rfl rfl (by decide +kernel) ⟨Nat.le_of_ble_eq_true rfl, Nat.le_of_ble_eq_true rfl⟩) (wPreV hP hD hK [11, 12, 13, 14] rfl rfl (ci := 3) (qb := 11) rfl rfl rfl) rfl rfl hl.1 rfl (lv_room (Nat.le_of_ble_eq_true rfl)) dX4_bounded_9 ⟨Nat.zero_le _, Nat.zero_le _⟩) hP hD hS hA [11, 12, 13, 14] [0, 1, 2, 3, 4, 5, 6, 7, 8, 9, 10, 15] [0, 1, 2, 3, 4, 5, 6, 7, 8, 9, 10, 12, 13, 14, 15, 11] rfl rfl rfl (by decide) rfl rfl (fun H locs hP hD hS => ?_)
      refine lv_icmp_ge (tgt := 39) hx hb dX4_bounded_12 (by decide) (fun c_1347 => ?_) (fun c_1347 => ?_)
      · have h := ip c_1347 h
        refine lv_iload_n hx hb dX4_bounded_39 rfl (lv_at hl 1 rfl) ?_
        obtain rfl := Option.some.inj h
        exact wri hx hb hr hlocks hP hD hS (Nat.le_of_ble_eq_true rfl) (Nat.le_of_ble_eq_true rfl) rfl dX4_bounded_40
      · have h := iq c_1347 h
        refine lv_aload_n hx hb dX4_bounded_15 rfl (lv_at hl 0 rfl) ?_
        refine va_get (D := G.1) (ci := 4) (v := .ref r0) (C := RX4) (T := TX4) (N := 4) hx hb hts hinX4 hown hK.1 hP 0 rfl rfl 2 (by decide) lk26 (fun _ h9 => h9) rfl dX4_bounded_16 ?_
        refine lv_aload_n hx hb dX4_bounded_19 rfl (lv_at hl 0 rfl) ?_
        refine va_get (D := G.1) (ci := 4) (v := .ref l0) (C := RX4) (T := TX4) (N := 4) hx hb hts hinX4 hown hK.1 hP 0 rfl rfl 0 (by decide) lk10 (fun _ h9 => h9) rfl dX4_bounded_20 ?_
        refine lv_iload_n hx hb dX4_bounded_23 rfl (lv_at hl 2 rfl) ?_
        obtain ⟨u_1348, hc_1349, h⟩ := bd_inv h
        refine wafter_i (wr := [(c0, .inr (4, [.ref l0, .ref m0, .ref r0, .ref g0])), (m0, .inr (2, [.ref m1, .ref m2, .ref m3, .ref m4, .ref m5, .int m_n])), (m1, .inl (G.2.1, 36, .inl m_x)), (m2, .inl (G.2.1, 36, .inl m_y)), (m3, .inl (G.2.1, 36, .inl m_d)), (m4, .inl (G.2.1, 36, .inl m_t)), (m5, .inl (G.2.1, 36, .inl m_v)), (g0, .inr (0, [.long g_e]))]) (w2 := (w_C G c0 l0 l1 l2 l3 m0 m1 m2 m3 m4 m5 r0 r1 r2 r3 g0 g_e l_a l_b l_c l_n m_x m_y m_d m_t m_v m_n r_s r_n r_w r_k)) (va_runV (As := [.ref l0, .int x2]) (rest := []) ⟨hx, hb, hml, hown, hts⟩ (kX3_isBounded (l := l) (G := G) r0 r1 r2 r3 l0 l1 l2 l3 l_a l_b l_c l_n r_s r_n r_w r_k x2 N u_1348 hc_1349 _) (cwV 2 hts gX4_bounded_X3_isBounded rfl rfl rfl (by decide +kernel) ⟨Nat.le_of_ble_eq_true rfl, Nat.le_of_ble_eq_true rfl⟩) (wPreV hP hD hK [11, 12, 13, 14, 1, 2, 3, 4] rfl rfl (ci := 3) (qb := 11) rfl rfl rfl) rfl rfl hl.1 rfl (lv_room (Nat.le_of_ble_eq_true rfl)) dX4_bounded_24 ⟨Nat.zero_le _, Nat.zero_le _⟩) hP hD hS hA [11, 12, 13, 14, 1, 2, 3, 4] [0, 5, 6, 7, 8, 9, 10, 15] [0, 12, 13, 14, 15, 1, 2, 3, 4, 5, 6, 8, 9, 10, 11, 7] rfl rfl rfl (by decide) rfl rfl (fun H locs hP hD hS => ?_)
        refine lv_if_eq (tgt := 33) hx hb dX4_bounded_27 (by decide) (fun c_1350 => ?_) (fun c_1350 => ?_)
        · have h := ip c_1350 h
          refine lv_iinc (v := (x2 + 1)) (lv' := [(2, .int (x2 + 1)), (0, .ref c0), (1, .int x1)]) hx hb dX4_bounded_33 hl (k := 2) rfl rfl (by decide) rfl (fun ls hl => ?_)
          refine lv_goto (tgt := 4) hx hb dX4_bounded_36 (by decide) ?_
          exact ih _ _ _ _ _ hP hD hS (lv_sub hl [1, 2, 0] rfl) h
        · have h := iq c_1350 h
          refine lv_iinc (v := (x1 + 1)) (lv' := [(1, .int (x1 + 1)), (0, .ref c0), (2, .int x2)]) hx hb dX4_bounded_30 hl (k := 1) rfl rfl (by decide) rfl (fun ls hl => ?_)
          refine lv_iinc (v := (x2 + 1)) (lv' := [(2, .int (x2 + 1)), (1, .int (x1 + 1)), (0, .ref c0)]) hx hb dX4_bounded_33 hl (k := 2) rfl rfl (by decide) rfl (fun ls hl => ?_)
          refine lv_goto (tgt := 4) hx hb dX4_bounded_36 (by decide) ?_
          exact ih _ _ _ _ _ hP hD hS (lv_sub hl [2, 1, 0] rfl) h
  rw [fX4_bounded.eq_1] at h
  refine lv_iconst (v := 0) hx hb dX4_bounded_0 (by decide) ?_
  refine lv_istore_n (lv' := [(1, .int 0), (0, .ref c0)]) hx hb dX4_bounded_1 rfl hl (by decide) rfl (fun ls hl => ?_)
  refine lv_iconst (v := 0) hx hb dX4_bounded_2 (by decide) ?_
  refine lv_istore_n (lv' := [(2, .int 0), (1, .int 0), (0, .ref c0)]) hx hb dX4_bounded_3 rfl hl (by decide) rfl (fun ls hl => ?_)
  exact w_4    ()  N _ _  _ _ _ hP hD hS (lv_sub hl [2, 1, 0] rfl) h
def fX4_checkRoom (N : Nat) (r_k : Int32) (x1 : Int32) : Option (String ⊕ (Unit)) := if x1 < 0 then some (.inl xIOO) else bd (fX3_count N r_k) (fun u_1352 => if x1 < u_1352 then some (.inr ()) else some (.inl xIOO))
set_option maxHeartbeats 4000000 in
set_option maxRecDepth 100000 in
theorem kX4_checkRoom {l : Launch} (hst : l.stackTraces = false) {G : wG} (c0 l0 l1 l2 l3 m0 m1 m2 m3 m4 m5 r0 r1 r2 r3 g0 : Nat) (g_e : Int64) (l_a : Nat → Int32) (l_b : Nat → Int32) (l_c : Nat → Int32) (l_n : Int32) (m_x : Nat → Int32) (m_y : Nat → Int32) (m_d : Nat → Int32) (m_t : Nat → Int32) (m_v : Nat → Int32) (m_n : Int32) (r_s : Nat → Int32) (r_n : Nat → Int32) (r_w : Nat → Int32) (r_k : Int32) (x1 : Int32) (N : Nat) (v : String ⊕ (Unit)) (h : fX4_checkRoom N r_k x1 = some v) : wXv l G yX4_checkRoom wsX4_checkRoom ({ frames := 6, cells := 1, slots := 6, locals := 100 } : Room) [.ref c0, .int x1] (w_C G c0 l0 l1 l2 l3 m0 m1 m2 m3 m4 m5 r0 r1 r2 r3 g0 g_e l_a l_b l_c l_n m_x m_y m_d m_t m_v m_n r_s r_n r_w r_k) v (fun t : Unit => (w_C G c0 l0 l1 l2 l3 m0 m1 m2 m3 m4 m5 r0 r1 r2 r3 g0 g_e l_a l_b l_c l_n m_x m_y m_d m_t m_v m_n r_s r_n r_w r_k)) 1 6 := by
  refine wXv.mk (cc := cX4_checkRoom) (maxL := 2) (by decide) rfl (Nat.le_of_ble_eq_true rfl) ?_
  intro p e s m below meth c A ls hx hb hml hr hlocks hts hown hK hA hP hD hT hnoh hl
  have hx : p.tables.exec = Jvm.exec := hx
  have hown : s.vm.findClass RX4 = some m.cls := hown
  have hinX4 : ∀ w ∈ wsX40, w ∈ wsX4_checkRoom := by decide +kernel
  have lk26 := hts (.fieldLink RX4 26 "Chamberwright" "rooms" "LChamberwright$Rooms;") (by decide +kernel)
  have lxIOO := hts (.classLink RX4 178 xIOO) (by decide +kernel)
  have iniIOO := hts (.initialized xIOO) (by decide +kernel)
  have gwIOO : ∀ w ∈ (vx_atS RX4 182 xIOO xNms).filter goodWord, w.before _ s = true := fun w hw => hts w ((by decide +kernel : ∀ w ∈ (vx_atS RX4 182 xIOO xNms).filter goodWord, w ∈ wsX4_checkRoom) w hw)
  have hS : va_S A s.heap s.heap [] := va_S.rf
  have hP : va_P G.1 vwCl (w_C G c0 l0 l1 l2 l3 m0 m1 m2 m3 m4 m5 r0 r1 r2 r3 g0 g_e l_a l_b l_c l_n m_x m_y m_d m_t m_v m_n r_s r_n r_w r_k) s.heap := hP
  have hD : va_D A (w_C G c0 l0 l1 l2 l3 m0 m1 m2 m3 m4 m5 r0 r1 r2 r3 g0 g_e l_a l_b l_c l_n m_x m_y m_d m_t m_v m_n r_s r_n r_w r_k) := hD
  have hl : lv_has ls 2 [(0, .ref c0), (1, .int x1)] := hl
  obtain ⟨args, hargs⟩ : ∃ z : Array Value, z = ([.ref c0, .int x1] : List Value).toArray := ⟨_, rfl⟩
  rw [← hargs]
  rw [← hargs] at hts
  rw [← hargs] at lxIOO iniIOO gwIOO
  rw [fX4_checkRoom.eq_1] at h
  refine lv_iload_n hx hb dX4_checkRoom_0 rfl (lv_at hl 1 rfl) ?_
  refine lv_if_lt (tgt := 15) hx hb dX4_checkRoom_1 (by decide) (fun c_1351 => ?_) (fun c_1351 => ?_)
  · have h := ip c_1351 h
    obtain rfl := Option.some.inj h
    exact wthrow_v (cls := xIOO) (text := "there is no such ROOM") hx hb hst hown (by decide +kernel) lxIOO iniIOO hT (by decide +kernel) gwIOO xng_IOO xot_IOO hP hD hS (hl.1.trans hml.symm) dX4_checkRoom_15 dX4_checkRoom_18 dX4_checkRoom_19 dX4_checkRoom_21 dX4_checkRoom_24 hnoh hlocks (Nat.le_of_ble_eq_true rfl) (Nat.le_of_ble_eq_true rfl) (Nat.le_of_ble_eq_true rfl) (Nat.le_of_ble_eq_true rfl) (Nat.le_of_ble_eq_true rfl) (Nat.le_of_ble_eq_true rfl) rfl
  · have h := iq c_1351 h
    refine lv_iload_n hx hb dX4_checkRoom_4 rfl (lv_at hl 1 rfl) ?_
    refine lv_aload_n hx hb dX4_checkRoom_5 rfl (lv_at hl 0 rfl) ?_
    refine va_get (D := G.1) (ci := 4) (v := .ref r0) (C := RX4) (T := TX4) (N := 4) hx hb hts hinX4 hown hK.1 hP 0 rfl rfl 2 (by decide) lk26 (fun _ h9 => h9) rfl dX4_checkRoom_6 ?_
    obtain ⟨u_1352, hc_1353, h⟩ := bd_inv h
    refine wafter_i (wr := [(c0, .inr (4, [.ref l0, .ref m0, .ref r0, .ref g0])), (l0, .inr (1, [.ref l1, .ref l2, .ref l3, .int l_n])), (l1, .inl (G.2.1, 9, .inl l_a)), (l2, .inl (G.2.1, 9, .inl l_b)), (l3, .inl (G.2.1, 9, .inl l_c)), (m0, .inr (2, [.ref m1, .ref m2, .ref m3, .ref m4, .ref m5, .int m_n])), (m1, .inl (G.2.1, 36, .inl m_x)), (m2, .inl (G.2.1, 36, .inl m_y)), (m3, .inl (G.2.1, 36, .inl m_d)), (m4, .inl (G.2.1, 36, .inl m_t)), (m5, .inl (G.2.1, 36, .inl m_v)), (g0, .inr (0, [.long g_e]))]) (w2 := (w_C G c0 l0 l1 l2 l3 m0 m1 m2 m3 m4 m5 r0 r1 r2 r3 g0 g_e l_a l_b l_c l_n m_x m_y m_d m_t m_v m_n r_s r_n r_w r_k)) (va_runV (As := []) (rest := [.int x1]) ⟨hx, hb, hml, hown, hts⟩ (kX3_count (l := l) (G := G) r0 r1 r2 r3 r_s r_n r_w r_k  N u_1352 hc_1353 _) (cwV 0 hts gX4_checkRoom_X3_count rfl rfl rfl (by decide +kernel) ⟨Nat.le_of_ble_eq_true rfl, Nat.le_of_ble_eq_true rfl⟩) (wPreV hP hD hK [11, 12, 13, 14] rfl rfl (ci := 3) (qb := 11) rfl rfl rfl) rfl rfl hl.1 rfl (lv_room (Nat.le_of_ble_eq_true rfl)) dX4_checkRoom_9 ⟨Nat.le_of_ble_eq_true rfl, Nat.le_of_ble_eq_true rfl⟩) hP hD hS hA [11, 12, 13, 14] [0, 1, 2, 3, 4, 5, 6, 7, 8, 9, 10, 15] [0, 1, 2, 3, 4, 5, 6, 7, 8, 9, 10, 12, 13, 14, 15, 11] rfl rfl rfl (by decide) rfl rfl (fun H locs hP hD hS => ?_)
    refine lv_icmp_lt (tgt := 25) hx hb dX4_checkRoom_12 (by decide) (fun c_1354 => ?_) (fun c_1354 => ?_)
    · have h := ip c_1354 h
      obtain rfl := Option.some.inj h
      exact wrxv (t0 := ()) hx hb hr hlocks hP hD hS (Nat.le_of_ble_eq_true rfl) (Nat.le_of_ble_eq_true rfl) rfl dX4_checkRoom_25
    · have h := iq c_1354 h
      obtain rfl := Option.some.inj h
      exact wthrow_v (cls := xIOO) (text := "there is no such ROOM") hx hb hst hown (by decide +kernel) lxIOO iniIOO hT (by decide +kernel) gwIOO xng_IOO xot_IOO hP hD hS (hl.1.trans hml.symm) dX4_checkRoom_15 dX4_checkRoom_18 dX4_checkRoom_19 dX4_checkRoom_21 dX4_checkRoom_24 hnoh hlocks (Nat.le_of_ble_eq_true rfl) (Nat.le_of_ble_eq_true rfl) (Nat.le_of_ble_eq_true rfl) (Nat.le_of_ble_eq_true rfl) (Nat.le_of_ble_eq_true rfl) (Nat.le_of_ble_eq_true rfl) rfl
def fX4_room (N : Nat) (l_a : Nat → Int32) (l_b : Nat → Int32) (l_n : Int32) (m_t : Nat → Int32) (m_v : Nat → Int32) (m_n : Int32) (r_s : Nat → Int32) (r_n : Nat → Int32) (r_k : Int32) (x1 : Int32) (x2 : Int32) : Option (String ⊕ (Int32)) := bdx (fX4_checkRoom N r_k x1) (fun u_1355 => if x2 = 0 then bd (fX3_set N r_s x1) (fun u_1358 => some (.inr u_1358)) else if x2 = 1 then bd (fX3_isBounded N l_a l_b l_n r_s x1) (fun u_1361 => if u_1361 = 0 then some (.inr 0) else some (.inr 1)) else if x2 = 2 then bd (fX3_walls N r_s r_n x1) (fun u_1365 => some (.inr u_1365)) else if x2 = 3 then bd (fX3_set N r_s x1) (fun u_1368 => bd (fX2_cornersOf N m_t m_v m_n u_1368) (fun u_1370 => some (.inr u_1370))) else some (.inl xIAE))
set_option maxHeartbeats 4000000 in
set_option maxRecDepth 100000 in
theorem kX4_room {l : Launch} (hst : l.stackTraces = false) {G : wG} (c0 l0 l1 l2 l3 m0 m1 m2 m3 m4 m5 r0 r1 r2 r3 g0 : Nat) (g_e : Int64) (l_a : Nat → Int32) (l_b : Nat → Int32) (l_c : Nat → Int32) (l_n : Int32) (m_x : Nat → Int32) (m_y : Nat → Int32) (m_d : Nat → Int32) (m_t : Nat → Int32) (m_v : Nat → Int32) (m_n : Int32) (r_s : Nat → Int32) (r_n : Nat → Int32) (r_w : Nat → Int32) (r_k : Int32) (x1 : Int32) (x2 : Int32) (N : Nat) (v : String ⊕ (Int32)) (h : fX4_room N l_a l_b l_n m_t m_v m_n r_s r_n r_k x1 x2 = some v) : wXi l G yX4_room wsX4_room ({ frames := 7, cells := 4, slots := 24, locals := 121 } : Room) [.ref c0, .int x1, .int x2] (w_C G c0 l0 l1 l2 l3 m0 m1 m2 m3 m4 m5 r0 r1 r2 r3 g0 g_e l_a l_b l_c l_n m_x m_y m_d m_t m_v m_n r_s r_n r_w r_k) v (fun t : Int32 => (w_C G c0 l0 l1 l2 l3 m0 m1 m2 m3 m4 m5 r0 r1 r2 r3 g0 g_e l_a l_b l_c l_n m_x m_y m_d m_t m_v m_n r_s r_n r_w r_k)) (fun t : Int32 => t) 4 24 := by
  refine wXi.mk (cc := cX4_room) (maxL := 3) (ty := .int) (by decide) rfl (Nat.le_of_ble_eq_true rfl) ?_
  intro p e s m below meth c A ls hx hb hml hr hlocks hts hown hK hA hP hD hT hnoh hl
  have hx : p.tables.exec = Jvm.exec := hx
  have hown : s.vm.findClass RX4 = some m.cls := hown
  have hinX4 : ∀ w ∈ wsX40, w ∈ wsX4_room := by decide +kernel
  have lk10 := hts (.fieldLink RX4 10 "Chamberwright" "lines" "LChamberwright$Lines;") (by decide +kernel)
  have lk19 := hts (.fieldLink RX4 19 "Chamberwright" "meets" "LChamberwright$Meets;") (by decide +kernel)
  have lk26 := hts (.fieldLink RX4 26 "Chamberwright" "rooms" "LChamberwright$Rooms;") (by decide +kernel)
  have lxIAE := hts (.classLink RX4 41 xIAE) (by decide +kernel)
  have iniIAE := hts (.initialized xIAE) (by decide +kernel)
  have gwIAE : ∀ w ∈ (vx_atS RX4 45 xIAE xNms).filter goodWord, w.before _ s = true := fun w hw => hts w ((by decide +kernel : ∀ w ∈ (vx_atS RX4 45 xIAE xNms).filter goodWord, w ∈ wsX4_room) w hw)
  have hS : va_S A s.heap s.heap [] := va_S.rf
  have hP : va_P G.1 vwCl (w_C G c0 l0 l1 l2 l3 m0 m1 m2 m3 m4 m5 r0 r1 r2 r3 g0 g_e l_a l_b l_c l_n m_x m_y m_d m_t m_v m_n r_s r_n r_w r_k) s.heap := hP
  have hD : va_D A (w_C G c0 l0 l1 l2 l3 m0 m1 m2 m3 m4 m5 r0 r1 r2 r3 g0 g_e l_a l_b l_c l_n m_x m_y m_d m_t m_v m_n r_s r_n r_w r_k) := hD
  have hl : lv_has ls 3 [(0, .ref c0), (1, .int x1), (2, .int x2)] := hl
  obtain ⟨args, hargs⟩ : ∃ z : Array Value, z = ([.ref c0, .int x1, .int x2] : List Value).toArray := ⟨_, rfl⟩
  rw [← hargs]
  rw [← hargs] at hts
  rw [← hargs] at lxIAE iniIAE gwIAE
  rw [fX4_room.eq_1] at h
  refine lv_aload_n hx hb dX4_room_0 rfl (lv_at hl 0 rfl) ?_
  refine lv_iload_n hx hb dX4_room_1 rfl (lv_at hl 1 rfl) ?_
  obtain ⟨x_u_1355, hc_1356, hx_u_1355, h⟩ := bdx_inv h
  refine wafterx_v (wr := []) (vx_runV (As := [.int x1]) (rest := []) ⟨hx, hb, hml, hown, hts⟩ (kX4_checkRoom (l := l) hst (G := G) c0 l0 l1 l2 l3 m0 m1 m2 m3 m4 m5 r0 r1 r2 r3 g0 g_e l_a l_b l_c l_n m_x m_y m_d m_t m_v m_n r_s r_n r_w r_k x1 N x_u_1355 hc_1356 _) (cwV 1 hts gX4_room_X4_checkRoom rfl rfl rfl (by decide +kernel) ⟨Nat.le_of_ble_eq_true rfl, Nat.le_of_ble_eq_true rfl⟩) (wPreVX hP hD hK hS hA hT [0, 1, 2, 3, 4, 5, 6, 7, 8, 9, 10, 11, 12, 13, 14, 15] rfl rfl (ci := 4) (qb := 0) rfl rfl rfl) rfl rfl hl.1 rfl (lv_room (Nat.le_of_ble_eq_true rfl)) dX4_room_2 ⟨(Nat.le_of_ble_eq_true rfl), (Nat.le_of_ble_eq_true rfl)⟩) hP hD hS hA [0, 1, 2, 3, 4, 5, 6, 7, 8, 9, 10, 11, 12, 13, 14, 15] [] [0, 1, 2, 3, 4, 5, 6, 7, 8, 9, 10, 11, 12, 13, 14, 15] rfl rfl rfl (by decide) rfl rfl (fun E ce q9 H locs he hP hD hS hce hcv hcl => wpass_i hnoh hlocks hP hD hS hce hcv hcl (hx_u_1355 E he) (Nat.le_of_ble_eq_true rfl) (Nat.le_of_ble_eq_true rfl)) (fun u_1355 H locs hu hP hD hS => ?_)
  have h := h u_1355 hu
  have hP : va_P G.1 vwCl (w_C G c0 l0 l1 l2 l3 m0 m1 m2 m3 m4 m5 r0 r1 r2 r3 g0 g_e l_a l_b l_c l_n m_x m_y m_d m_t m_v m_n r_s r_n r_w r_k) H := hP.sub [0, 1, 2, 3, 4, 5, 6, 7, 8, 9, 10, 11, 12, 13, 14, 15] rfl
  have hD : va_D A (w_C G c0 l0 l1 l2 l3 m0 m1 m2 m3 m4 m5 r0 r1 r2 r3 g0 g_e l_a l_b l_c l_n m_x m_y m_d m_t m_v m_n r_s r_n r_w r_k) := hD.sub [0, 1, 2, 3, 4, 5, 6, 7, 8, 9, 10, 11, 12, 13, 14, 15] rfl rfl
  refine lv_iload_n hx hb dX4_room_5 rfl (lv_at hl 2 rfl) ?_
  by_cases c_1357 : x2 = 0
  · have h := ip c_1357 h
    refine lv_tableIn (tgt := 36) hx hb dX4_room_6 (by rw [c_1357]; decide) (by rw [c_1357]; decide) (by rw [c_1357]; rfl) (by decide) ?_
    refine lv_aload_n hx hb dX4_room_36 rfl (lv_at hl 0 rfl) ?_
    refine va_get (D := G.1) (ci := 4) (v := .ref r0) (C := RX4) (T := TX4) (N := 4) hx hb hts hinX4 hown hK.1 hP 0 rfl rfl 2 (by decide) lk26 (fun _ h9 => h9) rfl dX4_room_37 ?_
    refine lv_iload_n hx hb dX4_room_40 rfl (lv_at hl 1 rfl) ?_
    obtain ⟨u_1358, hc_1359, h⟩ := bd_inv h
    refine wafter_i (wr := [(c0, .inr (4, [.ref l0, .ref m0, .ref r0, .ref g0])), (l0, .inr (1, [.ref l1, .ref l2, .ref l3, .int l_n])), (l1, .inl (G.2.1, 9, .inl l_a)), (l2, .inl (G.2.1, 9, .inl l_b)), (l3, .inl (G.2.1, 9, .inl l_c)), (m0, .inr (2, [.ref m1, .ref m2, .ref m3, .ref m4, .ref m5, .int m_n])), (m1, .inl (G.2.1, 36, .inl m_x)), (m2, .inl (G.2.1, 36, .inl m_y)), (m3, .inl (G.2.1, 36, .inl m_d)), (m4, .inl (G.2.1, 36, .inl m_t)), (m5, .inl (G.2.1, 36, .inl m_v)), (g0, .inr (0, [.long g_e]))]) (w2 := (w_C G c0 l0 l1 l2 l3 m0 m1 m2 m3 m4 m5 r0 r1 r2 r3 g0 g_e l_a l_b l_c l_n m_x m_y m_d m_t m_v m_n r_s r_n r_w r_k)) (va_runV (As := [.int x1]) (rest := []) ⟨hx, hb, hml, hown, hts⟩ (kX3_set (l := l) (G := G) r0 r1 r2 r3 r_s r_n r_w r_k x1 N u_1358 hc_1359 _) (cwV 1 hts gX4_room_X3_set rfl rfl rfl (by decide +kernel) ⟨Nat.le_of_ble_eq_true rfl, Nat.le_of_ble_eq_true rfl⟩) (wPreV hP hD hK [11, 12, 13, 14] rfl rfl (ci := 3) (qb := 11) rfl rfl rfl) rfl rfl hl.1 rfl (lv_room (Nat.le_of_ble_eq_true rfl)) dX4_room_41 ⟨Nat.le_of_ble_eq_true rfl, Nat.le_of_ble_eq_true rfl⟩) hP hD hS hA [11, 12, 13, 14] [0, 1, 2, 3, 4, 5, 6, 7, 8, 9, 10, 15] [0, 1, 2, 3, 4, 5, 6, 7, 8, 9, 10, 12, 13, 14, 15, 11] rfl rfl rfl (by decide) rfl rfl (fun H locs hP hD hS => ?_)
    obtain rfl := Option.some.inj h
    exact wrxi (ty := .int) (t0 := u_1358) hx hb hr hlocks hP hD hS (Nat.le_of_ble_eq_true rfl) (Nat.le_of_ble_eq_true rfl) rfl rfl dX4_room_44
  · have h := iq c_1357 h
    by_cases c_1360 : x2 = 1
    · have h := ip c_1360 h
      refine lv_tableIn (tgt := 45) hx hb dX4_room_6 (by rw [c_1360]; decide) (by rw [c_1360]; decide) (by rw [c_1360]; rfl) (by decide) ?_
      refine lv_aload_n hx hb dX4_room_45 rfl (lv_at hl 0 rfl) ?_
      refine va_get (D := G.1) (ci := 4) (v := .ref r0) (C := RX4) (T := TX4) (N := 4) hx hb hts hinX4 hown hK.1 hP 0 rfl rfl 2 (by decide) lk26 (fun _ h9 => h9) rfl dX4_room_46 ?_
      refine lv_aload_n hx hb dX4_room_49 rfl (lv_at hl 0 rfl) ?_
      refine va_get (D := G.1) (ci := 4) (v := .ref l0) (C := RX4) (T := TX4) (N := 4) hx hb hts hinX4 hown hK.1 hP 0 rfl rfl 0 (by decide) lk10 (fun _ h9 => h9) rfl dX4_room_50 ?_
      refine lv_iload_n hx hb dX4_room_53 rfl (lv_at hl 1 rfl) ?_
      obtain ⟨u_1361, hc_1362, h⟩ := bd_inv h
      refine wafter_i (wr := [(c0, .inr (4, [.ref l0, .ref m0, .ref r0, .ref g0])), (m0, .inr (2, [.ref m1, .ref m2, .ref m3, .ref m4, .ref m5, .int m_n])), (m1, .inl (G.2.1, 36, .inl m_x)), (m2, .inl (G.2.1, 36, .inl m_y)), (m3, .inl (G.2.1, 36, .inl m_d)), (m4, .inl (G.2.1, 36, .inl m_t)), (m5, .inl (G.2.1, 36, .inl m_v)), (g0, .inr (0, [.long g_e]))]) (w2 := (w_C G c0 l0 l1 l2 l3 m0 m1 m2 m3 m4 m5 r0 r1 r2 r3 g0 g_e l_a l_b l_c l_n m_x m_y m_d m_t m_v m_n r_s r_n r_w r_k)) (va_runV (As := [.ref l0, .int x1]) (rest := []) ⟨hx, hb, hml, hown, hts⟩ (kX3_isBounded (l := l) (G := G) r0 r1 r2 r3 l0 l1 l2 l3 l_a l_b l_c l_n r_s r_n r_w r_k x1 N u_1361 hc_1362 _) (cwV 2 hts gX4_room_X3_isBounded rfl rfl rfl (by decide +kernel) ⟨Nat.le_of_ble_eq_true rfl, Nat.le_of_ble_eq_true rfl⟩) (wPreV hP hD hK [11, 12, 13, 14, 1, 2, 3, 4] rfl rfl (ci := 3) (qb := 11) rfl rfl rfl) rfl rfl hl.1 rfl (lv_room (Nat.le_of_ble_eq_true rfl)) dX4_room_54 ⟨Nat.le_of_ble_eq_true rfl, Nat.le_of_ble_eq_true rfl⟩) hP hD hS hA [11, 12, 13, 14, 1, 2, 3, 4] [0, 5, 6, 7, 8, 9, 10, 15] [0, 12, 13, 14, 15, 1, 2, 3, 4, 5, 6, 8, 9, 10, 11, 7] rfl rfl rfl (by decide) rfl rfl (fun H locs hP hD hS => ?_)
      refine lv_if_eq (tgt := 64) hx hb dX4_room_57 (by decide) (fun c_1363 => ?_) (fun c_1363 => ?_)
      · have h := ip c_1363 h
        refine lv_iconst (v := 0) hx hb dX4_room_64 (by decide) ?_
        obtain rfl := Option.some.inj h
        exact wrxi (ty := .int) (t0 := 0) hx hb hr hlocks hP hD hS (Nat.le_of_ble_eq_true rfl) (Nat.le_of_ble_eq_true rfl) rfl rfl dX4_room_65
      · have h := iq c_1363 h
        refine lv_iconst (v := 1) hx hb dX4_room_60 (by decide) ?_
        refine lv_goto (tgt := 65) hx hb dX4_room_61 (by decide) ?_
        obtain rfl := Option.some.inj h
        exact wrxi (ty := .int) (t0 := 1) hx hb hr hlocks hP hD hS (Nat.le_of_ble_eq_true rfl) (Nat.le_of_ble_eq_true rfl) rfl rfl dX4_room_65
    · have h := iq c_1360 h
      by_cases c_1364 : x2 = 2
      · have h := ip c_1364 h
        refine lv_tableIn (tgt := 66) hx hb dX4_room_6 (by rw [c_1364]; decide) (by rw [c_1364]; decide) (by rw [c_1364]; rfl) (by decide) ?_
        refine lv_aload_n hx hb dX4_room_66 rfl (lv_at hl 0 rfl) ?_
        refine va_get (D := G.1) (ci := 4) (v := .ref r0) (C := RX4) (T := TX4) (N := 4) hx hb hts hinX4 hown hK.1 hP 0 rfl rfl 2 (by decide) lk26 (fun _ h9 => h9) rfl dX4_room_67 ?_
        refine lv_iload_n hx hb dX4_room_70 rfl (lv_at hl 1 rfl) ?_
        obtain ⟨u_1365, hc_1366, h⟩ := bd_inv h
        refine wafter_i (wr := [(c0, .inr (4, [.ref l0, .ref m0, .ref r0, .ref g0])), (l0, .inr (1, [.ref l1, .ref l2, .ref l3, .int l_n])), (l1, .inl (G.2.1, 9, .inl l_a)), (l2, .inl (G.2.1, 9, .inl l_b)), (l3, .inl (G.2.1, 9, .inl l_c)), (m0, .inr (2, [.ref m1, .ref m2, .ref m3, .ref m4, .ref m5, .int m_n])), (m1, .inl (G.2.1, 36, .inl m_x)), (m2, .inl (G.2.1, 36, .inl m_y)), (m3, .inl (G.2.1, 36, .inl m_d)), (m4, .inl (G.2.1, 36, .inl m_t)), (m5, .inl (G.2.1, 36, .inl m_v)), (g0, .inr (0, [.long g_e]))]) (w2 := (w_C G c0 l0 l1 l2 l3 m0 m1 m2 m3 m4 m5 r0 r1 r2 r3 g0 g_e l_a l_b l_c l_n m_x m_y m_d m_t m_v m_n r_s r_n r_w r_k)) (va_runV (As := [.int x1]) (rest := []) ⟨hx, hb, hml, hown, hts⟩ (kX3_walls (l := l) (G := G) r0 r1 r2 r3 r_s r_n r_w r_k x1 N u_1365 hc_1366 _) (cwV 1 hts gX4_room_X3_walls rfl rfl rfl (by decide +kernel) ⟨Nat.le_of_ble_eq_true rfl, Nat.le_of_ble_eq_true rfl⟩) (wPreV hP hD hK [11, 12, 13, 14] rfl rfl (ci := 3) (qb := 11) rfl rfl rfl) rfl rfl hl.1 rfl (lv_room (Nat.le_of_ble_eq_true rfl)) dX4_room_71 ⟨Nat.le_of_ble_eq_true rfl, Nat.le_of_ble_eq_true rfl⟩) hP hD hS hA [11, 12, 13, 14] [0, 1, 2, 3, 4, 5, 6, 7, 8, 9, 10, 15] [0, 1, 2, 3, 4, 5, 6, 7, 8, 9, 10, 12, 13, 14, 15, 11] rfl rfl rfl (by decide) rfl rfl (fun H locs hP hD hS => ?_)
        obtain rfl := Option.some.inj h
        exact wrxi (ty := .int) (t0 := u_1365) hx hb hr hlocks hP hD hS (Nat.le_of_ble_eq_true rfl) (Nat.le_of_ble_eq_true rfl) rfl rfl dX4_room_74
      · have h := iq c_1364 h
        by_cases c_1367 : x2 = 3
        · have h := ip c_1367 h
          refine lv_tableIn (tgt := 75) hx hb dX4_room_6 (by rw [c_1367]; decide) (by rw [c_1367]; decide) (by rw [c_1367]; rfl) (by decide) ?_
          refine lv_aload_n hx hb dX4_room_75 rfl (lv_at hl 0 rfl) ?_
          refine va_get (D := G.1) (ci := 4) (v := .ref m0) (C := RX4) (T := TX4) (N := 4) hx hb hts hinX4 hown hK.1 hP 0 rfl rfl 1 (by decide) lk19 (fun _ h9 => h9) rfl dX4_room_76 ?_
          refine lv_aload_n hx hb dX4_room_79 rfl (lv_at hl 0 rfl) ?_
          refine va_get (D := G.1) (ci := 4) (v := .ref r0) (C := RX4) (T := TX4) (N := 4) hx hb hts hinX4 hown hK.1 hP 0 rfl rfl 2 (by decide) lk26 (fun _ h9 => h9) rfl dX4_room_80 ?_
          refine lv_iload_n hx hb dX4_room_83 rfl (lv_at hl 1 rfl) ?_
          obtain ⟨u_1368, hc_1369, h⟩ := bd_inv h
          refine wafter_i (wr := [(c0, .inr (4, [.ref l0, .ref m0, .ref r0, .ref g0])), (l0, .inr (1, [.ref l1, .ref l2, .ref l3, .int l_n])), (l1, .inl (G.2.1, 9, .inl l_a)), (l2, .inl (G.2.1, 9, .inl l_b)), (l3, .inl (G.2.1, 9, .inl l_c)), (m0, .inr (2, [.ref m1, .ref m2, .ref m3, .ref m4, .ref m5, .int m_n])), (m1, .inl (G.2.1, 36, .inl m_x)), (m2, .inl (G.2.1, 36, .inl m_y)), (m3, .inl (G.2.1, 36, .inl m_d)), (m4, .inl (G.2.1, 36, .inl m_t)), (m5, .inl (G.2.1, 36, .inl m_v)), (g0, .inr (0, [.long g_e]))]) (w2 := (w_C G c0 l0 l1 l2 l3 m0 m1 m2 m3 m4 m5 r0 r1 r2 r3 g0 g_e l_a l_b l_c l_n m_x m_y m_d m_t m_v m_n r_s r_n r_w r_k)) (va_runV (As := [.int x1]) (rest := [.ref m0]) ⟨hx, hb, hml, hown, hts⟩ (kX3_set (l := l) (G := G) r0 r1 r2 r3 r_s r_n r_w r_k x1 N u_1368 hc_1369 _) (cwV 1 hts gX4_room_X3_set rfl rfl rfl (by decide +kernel) ⟨Nat.le_of_ble_eq_true rfl, Nat.le_of_ble_eq_true rfl⟩) (wPreV hP hD hK [11, 12, 13, 14] rfl rfl (ci := 3) (qb := 11) rfl rfl rfl) rfl rfl hl.1 rfl (lv_room (Nat.le_of_ble_eq_true rfl)) dX4_room_84 ⟨Nat.le_of_ble_eq_true rfl, Nat.le_of_ble_eq_true rfl⟩) hP hD hS hA [11, 12, 13, 14] [0, 1, 2, 3, 4, 5, 6, 7, 8, 9, 10, 15] [0, 1, 2, 3, 4, 5, 6, 7, 8, 9, 10, 12, 13, 14, 15, 11] rfl rfl rfl (by decide) rfl rfl (fun H locs hP hD hS => ?_)
          obtain ⟨u_1370, hc_1371, h⟩ := bd_inv h
          refine wafter_i (wr := [(c0, .inr (4, [.ref l0, .ref m0, .ref r0, .ref g0])), (l0, .inr (1, [.ref l1, .ref l2, .ref l3, .int l_n])), (l1, .inl (G.2.1, 9, .inl l_a)), (l2, .inl (G.2.1, 9, .inl l_b)), (l3, .inl (G.2.1, 9, .inl l_c)), (r0, .inr (3, [.ref r1, .ref r2, .ref r3, .int r_k])), (r1, .inl (G.2.1, 46, .inl r_s)), (r2, .inl (G.2.1, 512, .inl r_n)), (r3, .inl (G.2.1, 512, .inl r_w)), (g0, .inr (0, [.long g_e]))]) (w2 := (w_C G c0 l0 l1 l2 l3 m0 m1 m2 m3 m4 m5 r0 r1 r2 r3 g0 g_e l_a l_b l_c l_n m_x m_y m_d m_t m_v m_n r_s r_n r_w r_k)) (va_runV (As := [.int u_1368]) (rest := []) ⟨hx, hb, hml, hown, hts⟩ (kX2_cornersOf (l := l) (G := G) m0 m1 m2 m3 m4 m5 m_x m_y m_d m_t m_v m_n u_1368 N u_1370 hc_1371 _) (cwV 1 hts gX4_room_X2_cornersOf rfl rfl rfl (by decide +kernel) ⟨Nat.le_of_ble_eq_true rfl, Nat.le_of_ble_eq_true rfl⟩) (wPreV hP hD hK [5, 6, 7, 8, 9, 10] rfl rfl (ci := 2) (qb := 5) rfl rfl rfl) rfl rfl hl.1 rfl (lv_room (Nat.le_of_ble_eq_true rfl)) dX4_room_87 ⟨Nat.le_of_ble_eq_true rfl, Nat.le_of_ble_eq_true rfl⟩) hP hD hS hA [5, 6, 7, 8, 9, 10] [0, 1, 2, 3, 4, 11, 12, 13, 14, 15] [0, 1, 2, 3, 4, 10, 11, 12, 13, 14, 15, 5, 6, 7, 8, 9] rfl rfl rfl (by decide) rfl rfl (fun H locs hP hD hS => ?_)
          obtain rfl := Option.some.inj h
          exact wrxi (ty := .int) (t0 := u_1370) hx hb hr hlocks hP hD hS (Nat.le_of_ble_eq_true rfl) (Nat.le_of_ble_eq_true rfl) rfl rfl dX4_room_90
        · have h := iq c_1367 h
          refine lv_tableOut (tgt := 91) hx hb dX4_room_6 (w_sw3 c_1357 c_1360 c_1364 c_1367) (by decide) ?_
          obtain rfl := Option.some.inj h
          exact wthrow_i (cls := xIAE) (text := "what is 0 to 3") hx hb hst hown (by decide +kernel) lxIAE iniIAE hT (by decide +kernel) gwIAE xng_IAE xot_IAE hP hD hS (hl.1.trans hml.symm) dX4_room_91 dX4_room_94 dX4_room_95 dX4_room_97 dX4_room_100 hnoh hlocks (Nat.le_of_ble_eq_true rfl) (Nat.le_of_ble_eq_true rfl) (Nat.le_of_ble_eq_true rfl) (Nat.le_of_ble_eq_true rfl) (Nat.le_of_ble_eq_true rfl) (Nat.le_of_ble_eq_true rfl) rfl
def fX4_roomOf (N : Nat) (r_n : Nat → Int32) (x1 : Int32) : Option (String ⊕ (Int32)) := if x1 < 0 then some (.inl xIAE) else if x1 < 512 then bd (fX3_numberOf N r_n x1) (fun u_1374 => some (.inr u_1374)) else some (.inl xIAE)
set_option maxHeartbeats 4000000 in
set_option maxRecDepth 100000 in
theorem kX4_roomOf {l : Launch} (hst : l.stackTraces = false) {G : wG} (c0 l0 l1 l2 l3 m0 m1 m2 m3 m4 m5 r0 r1 r2 r3 g0 : Nat) (g_e : Int64) (l_a : Nat → Int32) (l_b : Nat → Int32) (l_c : Nat → Int32) (l_n : Int32) (m_x : Nat → Int32) (m_y : Nat → Int32) (m_d : Nat → Int32) (m_t : Nat → Int32) (m_v : Nat → Int32) (m_n : Int32) (r_s : Nat → Int32) (r_n : Nat → Int32) (r_w : Nat → Int32) (r_k : Int32) (x1 : Int32) (N : Nat) (v : String ⊕ (Int32)) (h : fX4_roomOf N r_n x1 = some v) : wXi l G yX4_roomOf wsX4_roomOf ({ frames := 6, cells := 4, slots := 24, locals := 100 } : Room) [.ref c0, .int x1] (w_C G c0 l0 l1 l2 l3 m0 m1 m2 m3 m4 m5 r0 r1 r2 r3 g0 g_e l_a l_b l_c l_n m_x m_y m_d m_t m_v m_n r_s r_n r_w r_k) v (fun t : Int32 => (w_C G c0 l0 l1 l2 l3 m0 m1 m2 m3 m4 m5 r0 r1 r2 r3 g0 g_e l_a l_b l_c l_n m_x m_y m_d m_t m_v m_n r_s r_n r_w r_k)) (fun t : Int32 => t) 4 24 := by
  refine wXi.mk (cc := cX4_roomOf) (maxL := 2) (ty := .int) (by decide) rfl (Nat.le_of_ble_eq_true rfl) ?_
  intro p e s m below meth c A ls hx hb hml hr hlocks hts hown hK hA hP hD hT hnoh hl
  have hx : p.tables.exec = Jvm.exec := hx
  have hown : s.vm.findClass RX4 = some m.cls := hown
  have hinX4 : ∀ w ∈ wsX40, w ∈ wsX4_roomOf := by decide +kernel
  have lk26 := hts (.fieldLink RX4 26 "Chamberwright" "rooms" "LChamberwright$Rooms;") (by decide +kernel)
  have lxIAE := hts (.classLink RX4 41 xIAE) (by decide +kernel)
  have iniIAE := hts (.initialized xIAE) (by decide +kernel)
  have gwIAE : ∀ w ∈ (vx_atS RX4 45 xIAE xNms).filter goodWord, w.before _ s = true := fun w hw => hts w ((by decide +kernel : ∀ w ∈ (vx_atS RX4 45 xIAE xNms).filter goodWord, w ∈ wsX4_roomOf) w hw)
  have hS : va_S A s.heap s.heap [] := va_S.rf
  have hP : va_P G.1 vwCl (w_C G c0 l0 l1 l2 l3 m0 m1 m2 m3 m4 m5 r0 r1 r2 r3 g0 g_e l_a l_b l_c l_n m_x m_y m_d m_t m_v m_n r_s r_n r_w r_k) s.heap := hP
  have hD : va_D A (w_C G c0 l0 l1 l2 l3 m0 m1 m2 m3 m4 m5 r0 r1 r2 r3 g0 g_e l_a l_b l_c l_n m_x m_y m_d m_t m_v m_n r_s r_n r_w r_k) := hD
  have hl : lv_has ls 2 [(0, .ref c0), (1, .int x1)] := hl
  obtain ⟨args, hargs⟩ : ∃ z : Array Value, z = ([.ref c0, .int x1] : List Value).toArray := ⟨_, rfl⟩
  rw [← hargs]
  rw [← hargs] at hts
  rw [← hargs] at lxIAE iniIAE gwIAE
  rw [fX4_roomOf.eq_1] at h
  refine lv_iload_n hx hb dX4_roomOf_0 rfl (lv_at hl 1 rfl) ?_
  refine lv_if_lt (tgt := 11) hx hb dX4_roomOf_1 (by decide) (fun c_1372 => ?_) (fun c_1372 => ?_)
  · have h := ip c_1372 h
    obtain rfl := Option.some.inj h
    exact wthrow_i (cls := xIAE) (text := "a set is 0 to 511") hx hb hst hown (by decide +kernel) lxIAE iniIAE hT (by decide +kernel) gwIAE xng_IAE xot_IAE hP hD hS (hl.1.trans hml.symm) dX4_roomOf_11 dX4_roomOf_14 dX4_roomOf_15 dX4_roomOf_17 dX4_roomOf_20 hnoh hlocks (Nat.le_of_ble_eq_true rfl) (Nat.le_of_ble_eq_true rfl) (Nat.le_of_ble_eq_true rfl) (Nat.le_of_ble_eq_true rfl) (Nat.le_of_ble_eq_true rfl) (Nat.le_of_ble_eq_true rfl) rfl
  · have h := iq c_1372 h
    refine lv_iload_n hx hb dX4_roomOf_4 rfl (lv_at hl 1 rfl) ?_
    refine lv_sipush (v := 512) hx hb dX4_roomOf_5 (by decide) ?_
    refine lv_icmp_lt (tgt := 21) hx hb dX4_roomOf_8 (by decide) (fun c_1373 => ?_) (fun c_1373 => ?_)
    · have h := ip c_1373 h
      refine lv_aload_n hx hb dX4_roomOf_21 rfl (lv_at hl 0 rfl) ?_
      refine va_get (D := G.1) (ci := 4) (v := .ref r0) (C := RX4) (T := TX4) (N := 4) hx hb hts hinX4 hown hK.1 hP 0 rfl rfl 2 (by decide) lk26 (fun _ h9 => h9) rfl dX4_roomOf_22 ?_
      refine lv_iload_n hx hb dX4_roomOf_25 rfl (lv_at hl 1 rfl) ?_
      obtain ⟨u_1374, hc_1375, h⟩ := bd_inv h
      refine wafter_i (wr := [(c0, .inr (4, [.ref l0, .ref m0, .ref r0, .ref g0])), (l0, .inr (1, [.ref l1, .ref l2, .ref l3, .int l_n])), (l1, .inl (G.2.1, 9, .inl l_a)), (l2, .inl (G.2.1, 9, .inl l_b)), (l3, .inl (G.2.1, 9, .inl l_c)), (m0, .inr (2, [.ref m1, .ref m2, .ref m3, .ref m4, .ref m5, .int m_n])), (m1, .inl (G.2.1, 36, .inl m_x)), (m2, .inl (G.2.1, 36, .inl m_y)), (m3, .inl (G.2.1, 36, .inl m_d)), (m4, .inl (G.2.1, 36, .inl m_t)), (m5, .inl (G.2.1, 36, .inl m_v)), (g0, .inr (0, [.long g_e]))]) (w2 := (w_C G c0 l0 l1 l2 l3 m0 m1 m2 m3 m4 m5 r0 r1 r2 r3 g0 g_e l_a l_b l_c l_n m_x m_y m_d m_t m_v m_n r_s r_n r_w r_k)) (va_runV (As := [.int x1]) (rest := []) ⟨hx, hb, hml, hown, hts⟩ (kX3_numberOf (l := l) (G := G) r0 r1 r2 r3 r_s r_n r_w r_k x1 N u_1374 hc_1375 _) (cwV 1 hts gX4_roomOf_X3_numberOf rfl rfl rfl (by decide +kernel) ⟨Nat.le_of_ble_eq_true rfl, Nat.le_of_ble_eq_true rfl⟩) (wPreV hP hD hK [11, 12, 13, 14] rfl rfl (ci := 3) (qb := 11) rfl rfl rfl) rfl rfl hl.1 rfl (lv_room (Nat.le_of_ble_eq_true rfl)) dX4_roomOf_26 ⟨Nat.le_of_ble_eq_true rfl, Nat.le_of_ble_eq_true rfl⟩) hP hD hS hA [11, 12, 13, 14] [0, 1, 2, 3, 4, 5, 6, 7, 8, 9, 10, 15] [0, 1, 2, 3, 4, 5, 6, 7, 8, 9, 10, 12, 13, 14, 15, 11] rfl rfl rfl (by decide) rfl rfl (fun H locs hP hD hS => ?_)
      obtain rfl := Option.some.inj h
      exact wrxi (ty := .int) (t0 := u_1374) hx hb hr hlocks hP hD hS (Nat.le_of_ble_eq_true rfl) (Nat.le_of_ble_eq_true rfl) rfl rfl dX4_roomOf_29
    · have h := iq c_1373 h
      obtain rfl := Option.some.inj h
      exact wthrow_i (cls := xIAE) (text := "a set is 0 to 511") hx hb hst hown (by decide +kernel) lxIAE iniIAE hT (by decide +kernel) gwIAE xng_IAE xot_IAE hP hD hS (hl.1.trans hml.symm) dX4_roomOf_11 dX4_roomOf_14 dX4_roomOf_15 dX4_roomOf_17 dX4_roomOf_20 hnoh hlocks (Nat.le_of_ble_eq_true rfl) (Nat.le_of_ble_eq_true rfl) (Nat.le_of_ble_eq_true rfl) (Nat.le_of_ble_eq_true rfl) (Nat.le_of_ble_eq_true rfl) (Nat.le_of_ble_eq_true rfl) rfl
def fX4_checkPlace (N : Nat) (x0 : Int32) : Option (String ⊕ (Unit)) := if 0 ≤ x0 then some (.inr ()) else some (.inl xIOO)
set_option maxHeartbeats 4000000 in
set_option maxRecDepth 100000 in
theorem kX4_checkPlace {l : Launch} (hst : l.stackTraces = false) {G : wG} (x0 : Int32) (N : Nat) (v : String ⊕ (Unit)) (h : fX4_checkPlace N x0 = some v) : wXv l G yX4_checkPlace wsX4_checkPlace ({ frames := 6, cells := 1, slots := 6, locals := 100 } : Room) [.int x0] [] v (fun t : Unit => []) 1 6 := by
  refine wXv.mk (cc := cX4_checkPlace) (maxL := 1) (by decide) rfl (Nat.le_of_ble_eq_true rfl) ?_
  intro p e s m below meth c A ls hx hb hml hr hlocks hts hown hK hA hP hD hT hnoh hl
  have hx : p.tables.exec = Jvm.exec := hx
  have hown : s.vm.findClass RX4 = some m.cls := hown
  have lxIOO := hts (.classLink RX4 178 xIOO) (by decide +kernel)
  have iniIOO := hts (.initialized xIOO) (by decide +kernel)
  have gwIOO : ∀ w ∈ (vx_atS RX4 182 xIOO xNms).filter goodWord, w.before _ s = true := fun w hw => hts w ((by decide +kernel : ∀ w ∈ (vx_atS RX4 182 xIOO xNms).filter goodWord, w ∈ wsX4_checkPlace) w hw)
  have hS : va_S A s.heap s.heap [] := va_S.rf
  have hP : va_P G.1 vwCl [] s.heap := hP
  have hD : va_D A [] := hD
  have hl : lv_has ls 1 [(0, .int x0)] := hl
  obtain ⟨args, hargs⟩ : ∃ z : Array Value, z = ([.int x0] : List Value).toArray := ⟨_, rfl⟩
  rw [← hargs]
  rw [← hargs] at hts
  rw [← hargs] at lxIOO iniIOO gwIOO
  rw [fX4_checkPlace.eq_1] at h
  refine lv_iload_n hx hb dX4_checkPlace_0 rfl (lv_at hl 0 rfl) ?_
  refine lv_if_ge (tgt := 14) hx hb dX4_checkPlace_1 (by decide) (fun c_1376 => ?_) (fun c_1376 => ?_)
  · have h := ip c_1376 h
    obtain rfl := Option.some.inj h
    exact wrxv (t0 := ()) hx hb hr hlocks hP hD hS (Nat.le_of_ble_eq_true rfl) (Nat.le_of_ble_eq_true rfl) rfl dX4_checkPlace_14
  · have h := iq c_1376 h
    obtain rfl := Option.some.inj h
    exact wthrow_v (cls := xIOO) (text := "places and steps are counted from 0") hx hb hst hown (by decide +kernel) lxIOO iniIOO hT (by decide +kernel) gwIOO xng_IOO xot_IOO hP hD hS (hl.1.trans hml.symm) dX4_checkPlace_4 dX4_checkPlace_7 dX4_checkPlace_8 dX4_checkPlace_10 dX4_checkPlace_13 hnoh hlocks (Nat.le_of_ble_eq_true rfl) (Nat.le_of_ble_eq_true rfl) (Nat.le_of_ble_eq_true rfl) (Nat.le_of_ble_eq_true rfl) (Nat.le_of_ble_eq_true rfl) (Nat.le_of_ble_eq_true rfl) rfl
def fX4_corner (N : Nat) (m_t : Nat → Int32) (m_v : Nat → Int32) (m_n : Int32) (r_s : Nat → Int32) (r_k : Int32) (x1 : Int32) (x2 : Int32) : Option (String ⊕ (Int32)) := bdx (fX4_checkRoom N r_k x1) (fun u_1377 => bdx (fX4_checkPlace N x2) (fun u_1379 => bd (fX3_set N r_s x1) (fun u_1381 => bd (fX2_cornerAt N m_t m_v m_n u_1381 x2) (fun u_1383 => some (.inr u_1383)))))
set_option maxHeartbeats 4000000 in
set_option maxRecDepth 100000 in
theorem kX4_corner {l : Launch} (hst : l.stackTraces = false) {G : wG} (c0 l0 l1 l2 l3 m0 m1 m2 m3 m4 m5 r0 r1 r2 r3 g0 : Nat) (g_e : Int64) (l_a : Nat → Int32) (l_b : Nat → Int32) (l_c : Nat → Int32) (l_n : Int32) (m_x : Nat → Int32) (m_y : Nat → Int32) (m_d : Nat → Int32) (m_t : Nat → Int32) (m_v : Nat → Int32) (m_n : Int32) (r_s : Nat → Int32) (r_n : Nat → Int32) (r_w : Nat → Int32) (r_k : Int32) (x1 : Int32) (x2 : Int32) (N : Nat) (v : String ⊕ (Int32)) (h : fX4_corner N m_t m_v m_n r_s r_k x1 x2 = some v) : wXi l G yX4_corner wsX4_corner ({ frames := 7, cells := 4, slots := 24, locals := 121 } : Room) [.ref c0, .int x1, .int x2] (w_C G c0 l0 l1 l2 l3 m0 m1 m2 m3 m4 m5 r0 r1 r2 r3 g0 g_e l_a l_b l_c l_n m_x m_y m_d m_t m_v m_n r_s r_n r_w r_k) v (fun t : Int32 => (w_C G c0 l0 l1 l2 l3 m0 m1 m2 m3 m4 m5 r0 r1 r2 r3 g0 g_e l_a l_b l_c l_n m_x m_y m_d m_t m_v m_n r_s r_n r_w r_k)) (fun t : Int32 => t) 4 24 := by
  refine wXi.mk (cc := cX4_corner) (maxL := 3) (ty := .int) (by decide) rfl (Nat.le_of_ble_eq_true rfl) ?_
  intro p e s m below meth c A ls hx hb hml hr hlocks hts hown hK hA hP hD hT hnoh hl
  have hx : p.tables.exec = Jvm.exec := hx
  have hown : s.vm.findClass RX4 = some m.cls := hown
  have hinX4 : ∀ w ∈ wsX40, w ∈ wsX4_corner := by decide +kernel
  have lk19 := hts (.fieldLink RX4 19 "Chamberwright" "meets" "LChamberwright$Meets;") (by decide +kernel)
  have lk26 := hts (.fieldLink RX4 26 "Chamberwright" "rooms" "LChamberwright$Rooms;") (by decide +kernel)
  have hS : va_S A s.heap s.heap [] := va_S.rf
  have hP : va_P G.1 vwCl (w_C G c0 l0 l1 l2 l3 m0 m1 m2 m3 m4 m5 r0 r1 r2 r3 g0 g_e l_a l_b l_c l_n m_x m_y m_d m_t m_v m_n r_s r_n r_w r_k) s.heap := hP
  have hD : va_D A (w_C G c0 l0 l1 l2 l3 m0 m1 m2 m3 m4 m5 r0 r1 r2 r3 g0 g_e l_a l_b l_c l_n m_x m_y m_d m_t m_v m_n r_s r_n r_w r_k) := hD
  have hl : lv_has ls 3 [(0, .ref c0), (1, .int x1), (2, .int x2)] := hl
  obtain ⟨args, hargs⟩ : ∃ z : Array Value, z = ([.ref c0, .int x1, .int x2] : List Value).toArray := ⟨_, rfl⟩
  rw [← hargs]
  rw [← hargs] at hts
  rw [fX4_corner.eq_1] at h
  refine lv_aload_n hx hb dX4_corner_0 rfl (lv_at hl 0 rfl) ?_
  refine lv_iload_n hx hb dX4_corner_1 rfl (lv_at hl 1 rfl) ?_
  obtain ⟨x_u_1377, hc_1378, hx_u_1377, h⟩ := bdx_inv h
  refine wafterx_v (wr := []) (vx_runV (As := [.int x1]) (rest := []) ⟨hx, hb, hml, hown, hts⟩ (kX4_checkRoom (l := l) hst (G := G) c0 l0 l1 l2 l3 m0 m1 m2 m3 m4 m5 r0 r1 r2 r3 g0 g_e l_a l_b l_c l_n m_x m_y m_d m_t m_v m_n r_s r_n r_w r_k x1 N x_u_1377 hc_1378 _) (cwV 1 hts gX4_corner_X4_checkRoom rfl rfl rfl (by decide +kernel) ⟨Nat.le_of_ble_eq_true rfl, Nat.le_of_ble_eq_true rfl⟩) (wPreVX hP hD hK hS hA hT [0, 1, 2, 3, 4, 5, 6, 7, 8, 9, 10, 11, 12, 13, 14, 15] rfl rfl (ci := 4) (qb := 0) rfl rfl rfl) rfl rfl hl.1 rfl (lv_room (Nat.le_of_ble_eq_true rfl)) dX4_corner_2 ⟨(Nat.le_of_ble_eq_true rfl), (Nat.le_of_ble_eq_true rfl)⟩) hP hD hS hA [0, 1, 2, 3, 4, 5, 6, 7, 8, 9, 10, 11, 12, 13, 14, 15] [] [0, 1, 2, 3, 4, 5, 6, 7, 8, 9, 10, 11, 12, 13, 14, 15] rfl rfl rfl (by decide) rfl rfl (fun E ce q9 H locs he hP hD hS hce hcv hcl => wpass_i hnoh hlocks hP hD hS hce hcv hcl (hx_u_1377 E he) (Nat.le_of_ble_eq_true rfl) (Nat.le_of_ble_eq_true rfl)) (fun u_1377 H locs hu hP hD hS => ?_)
  have h := h u_1377 hu
  have hP : va_P G.1 vwCl (w_C G c0 l0 l1 l2 l3 m0 m1 m2 m3 m4 m5 r0 r1 r2 r3 g0 g_e l_a l_b l_c l_n m_x m_y m_d m_t m_v m_n r_s r_n r_w r_k) H := hP.sub [0, 1, 2, 3, 4, 5, 6, 7, 8, 9, 10, 11, 12, 13, 14, 15] rfl
  have hD : va_D A (w_C G c0 l0 l1 l2 l3 m0 m1 m2 m3 m4 m5 r0 r1 r2 r3 g0 g_e l_a l_b l_c l_n m_x m_y m_d m_t m_v m_n r_s r_n r_w r_k) := hD.sub [0, 1, 2, 3, 4, 5, 6, 7, 8, 9, 10, 11, 12, 13, 14, 15] rfl rfl
  refine lv_iload_n hx hb dX4_corner_5 rfl (lv_at hl 2 rfl) ?_
  obtain ⟨x_u_1379, hc_1380, hx_u_1379, h⟩ := bdx_inv h
  refine wafterx_v (wr := (w_C G c0 l0 l1 l2 l3 m0 m1 m2 m3 m4 m5 r0 r1 r2 r3 g0 g_e l_a l_b l_c l_n m_x m_y m_d m_t m_v m_n r_s r_n r_w r_k)) (vx_runS (As := [.int x2]) (rest := []) ⟨hx, hb, hml, hown, hts⟩ (kX4_checkPlace (l := l) hst (G := G)   x2 N x_u_1379 hc_1380 _) (va_cwS 1 hts gX4_corner_X4_checkPlace rfl rfl rfl (by decide +kernel) ⟨Nat.le_of_ble_eq_true rfl, Nat.le_of_ble_eq_true rfl⟩) (wPreSX hP hD hK hS hA hT [] rfl rfl) rfl rfl hl.1 rfl (lv_room (Nat.le_of_ble_eq_true rfl)) dX4_corner_6 ⟨(Nat.le_of_ble_eq_true rfl), (Nat.le_of_ble_eq_true rfl)⟩) hP hD hS hA [] [0, 1, 2, 3, 4, 5, 6, 7, 8, 9, 10, 11, 12, 13, 14, 15] [0, 1, 2, 3, 4, 5, 6, 7, 8, 9, 10, 11, 12, 13, 14, 15] rfl rfl rfl (by decide) rfl rfl (fun E ce q9 H locs he hP hD hS hce hcv hcl => wpass_i hnoh hlocks hP hD hS hce hcv hcl (hx_u_1379 E he) (Nat.le_of_ble_eq_true rfl) (Nat.le_of_ble_eq_true rfl)) (fun u_1379 H locs hu hP hD hS => ?_)
  have h := h u_1379 hu
  have hP : va_P G.1 vwCl (w_C G c0 l0 l1 l2 l3 m0 m1 m2 m3 m4 m5 r0 r1 r2 r3 g0 g_e l_a l_b l_c l_n m_x m_y m_d m_t m_v m_n r_s r_n r_w r_k) H := hP.sub [0, 1, 2, 3, 4, 5, 6, 7, 8, 9, 10, 11, 12, 13, 14, 15] rfl
  have hD : va_D A (w_C G c0 l0 l1 l2 l3 m0 m1 m2 m3 m4 m5 r0 r1 r2 r3 g0 g_e l_a l_b l_c l_n m_x m_y m_d m_t m_v m_n r_s r_n r_w r_k) := hD.sub [0, 1, 2, 3, 4, 5, 6, 7, 8, 9, 10, 11, 12, 13, 14, 15] rfl rfl
  refine lv_aload_n hx hb dX4_corner_9 rfl (lv_at hl 0 rfl) ?_
  refine va_get (D := G.1) (ci := 4) (v := .ref m0) (C := RX4) (T := TX4) (N := 4) hx hb hts hinX4 hown hK.1 hP 0 rfl rfl 1 (by decide) lk19 (fun _ h9 => h9) rfl dX4_corner_10 ?_
  refine lv_aload_n hx hb dX4_corner_13 rfl (lv_at hl 0 rfl) ?_
  refine va_get (D := G.1) (ci := 4) (v := .ref r0) (C := RX4) (T := TX4) (N := 4) hx hb hts hinX4 hown hK.1 hP 0 rfl rfl 2 (by decide) lk26 (fun _ h9 => h9) rfl dX4_corner_14 ?_
  refine lv_iload_n hx hb dX4_corner_17 rfl (lv_at hl 1 rfl) ?_
  obtain ⟨u_1381, hc_1382, h⟩ := bd_inv h
  refine wafter_i (wr := [(c0, .inr (4, [.ref l0, .ref m0, .ref r0, .ref g0])), (l0, .inr (1, [.ref l1, .ref l2, .ref l3, .int l_n])), (l1, .inl (G.2.1, 9, .inl l_a)), (l2, .inl (G.2.1, 9, .inl l_b)), (l3, .inl (G.2.1, 9, .inl l_c)), (m0, .inr (2, [.ref m1, .ref m2, .ref m3, .ref m4, .ref m5, .int m_n])), (m1, .inl (G.2.1, 36, .inl m_x)), (m2, .inl (G.2.1, 36, .inl m_y)), (m3, .inl (G.2.1, 36, .inl m_d)), (m4, .inl (G.2.1, 36, .inl m_t)), (m5, .inl (G.2.1, 36, .inl m_v)), (g0, .inr (0, [.long g_e]))]) (w2 := (w_C G c0 l0 l1 l2 l3 m0 m1 m2 m3 m4 m5 r0 r1 r2 r3 g0 g_e l_a l_b l_c l_n m_x m_y m_d m_t m_v m_n r_s r_n r_w r_k)) (va_runV (As := [.int x1]) (rest := [.ref m0]) ⟨hx, hb, hml, hown, hts⟩ (kX3_set (l := l) (G := G) r0 r1 r2 r3 r_s r_n r_w r_k x1 N u_1381 hc_1382 _) (cwV 1 hts gX4_corner_X3_set rfl rfl rfl (by decide +kernel) ⟨Nat.le_of_ble_eq_true rfl, Nat.le_of_ble_eq_true rfl⟩) (wPreV hP hD hK [11, 12, 13, 14] rfl rfl (ci := 3) (qb := 11) rfl rfl rfl) rfl rfl hl.1 rfl (lv_room (Nat.le_of_ble_eq_true rfl)) dX4_corner_18 ⟨Nat.le_of_ble_eq_true rfl, Nat.le_of_ble_eq_true rfl⟩) hP hD hS hA [11, 12, 13, 14] [0, 1, 2, 3, 4, 5, 6, 7, 8, 9, 10, 15] [0, 1, 2, 3, 4, 5, 6, 7, 8, 9, 10, 12, 13, 14, 15, 11] rfl rfl rfl (by decide) rfl rfl (fun H locs hP hD hS => ?_)
  refine lv_iload_n hx hb dX4_corner_21 rfl (lv_at hl 2 rfl) ?_
  obtain ⟨u_1383, hc_1384, h⟩ := bd_inv h
  refine wafter_i (wr := [(c0, .inr (4, [.ref l0, .ref m0, .ref r0, .ref g0])), (l0, .inr (1, [.ref l1, .ref l2, .ref l3, .int l_n])), (l1, .inl (G.2.1, 9, .inl l_a)), (l2, .inl (G.2.1, 9, .inl l_b)), (l3, .inl (G.2.1, 9, .inl l_c)), (r0, .inr (3, [.ref r1, .ref r2, .ref r3, .int r_k])), (r1, .inl (G.2.1, 46, .inl r_s)), (r2, .inl (G.2.1, 512, .inl r_n)), (r3, .inl (G.2.1, 512, .inl r_w)), (g0, .inr (0, [.long g_e]))]) (w2 := (w_C G c0 l0 l1 l2 l3 m0 m1 m2 m3 m4 m5 r0 r1 r2 r3 g0 g_e l_a l_b l_c l_n m_x m_y m_d m_t m_v m_n r_s r_n r_w r_k)) (va_runV (As := [.int u_1381, .int x2]) (rest := []) ⟨hx, hb, hml, hown, hts⟩ (kX2_cornerAt (l := l) (G := G) m0 m1 m2 m3 m4 m5 m_x m_y m_d m_t m_v m_n u_1381 x2 N u_1383 hc_1384 _) (cwV 2 hts gX4_corner_X2_cornerAt rfl rfl rfl (by decide +kernel) ⟨Nat.le_of_ble_eq_true rfl, Nat.le_of_ble_eq_true rfl⟩) (wPreV hP hD hK [5, 6, 7, 8, 9, 10] rfl rfl (ci := 2) (qb := 5) rfl rfl rfl) rfl rfl hl.1 rfl (lv_room (Nat.le_of_ble_eq_true rfl)) dX4_corner_22 ⟨Nat.le_of_ble_eq_true rfl, Nat.le_of_ble_eq_true rfl⟩) hP hD hS hA [5, 6, 7, 8, 9, 10] [0, 1, 2, 3, 4, 11, 12, 13, 14, 15] [0, 1, 2, 3, 4, 10, 11, 12, 13, 14, 15, 5, 6, 7, 8, 9] rfl rfl rfl (by decide) rfl rfl (fun H locs hP hD hS => ?_)
  obtain rfl := Option.some.inj h
  exact wrxi (ty := .int) (t0 := u_1383) hx hb hr hlocks hP hD hS (Nat.le_of_ble_eq_true rfl) (Nat.le_of_ble_eq_true rfl) rfl rfl dX4_corner_25
def fX4_galleries (N : Nat) (r_s : Nat → Int32) (r_n : Nat → Int32) (r_w : Nat → Int32) (r_k : Int32) (x1 : Int32) (x2 : Int32) : Option (String ⊕ (Int32 × (Nat → Int32))) := bdx (fX4_checkRoom N r_k x1) (fun u_1385 => bdx (fX4_checkRoom N r_k x2) (fun u_1387 => bd (fX3_shortestWays N r_s r_n r_w x1 x2) (fun u_1389 => some (.inr (u_1389.1, u_1389.2)))))
set_option maxHeartbeats 4000000 in
set_option maxRecDepth 100000 in
theorem kX4_galleries {l : Launch} (hst : l.stackTraces = false) {G : wG} (c0 l0 l1 l2 l3 m0 m1 m2 m3 m4 m5 r0 r1 r2 r3 g0 : Nat) (g_e : Int64) (l_a : Nat → Int32) (l_b : Nat → Int32) (l_c : Nat → Int32) (l_n : Int32) (m_x : Nat → Int32) (m_y : Nat → Int32) (m_d : Nat → Int32) (m_t : Nat → Int32) (m_v : Nat → Int32) (m_n : Int32) (r_s : Nat → Int32) (r_n : Nat → Int32) (r_w : Nat → Int32) (r_k : Int32) (x1 : Int32) (x2 : Int32) (N : Nat) (v : String ⊕ (Int32 × (Nat → Int32))) (h : fX4_galleries N r_s r_n r_w r_k x1 x2 = some v) : wXi l G yX4_galleries wsX4_galleries ({ frames := 7, cells := 4, slots := 24, locals := 121 } : Room) [.ref c0, .int x1, .int x2] (w_C G c0 l0 l1 l2 l3 m0 m1 m2 m3 m4 m5 r0 r1 r2 r3 g0 g_e l_a l_b l_c l_n m_x m_y m_d m_t m_v m_n r_s r_n r_w r_k) v (fun t : Int32 × (Nat → Int32) => (w_C G c0 l0 l1 l2 l3 m0 m1 m2 m3 m4 m5 r0 r1 r2 r3 g0 g_e l_a l_b l_c l_n m_x m_y m_d m_t m_v m_n r_s r_n t.2 r_k)) (fun t : Int32 × (Nat → Int32) => t.1) 4 24 := by
  refine wXi.mk (cc := cX4_galleries) (maxL := 3) (ty := .int) (by decide) rfl (Nat.le_of_ble_eq_true rfl) ?_
  intro p e s m below meth c A ls hx hb hml hr hlocks hts hown hK hA hP hD hT hnoh hl
  have hx : p.tables.exec = Jvm.exec := hx
  have hown : s.vm.findClass RX4 = some m.cls := hown
  have hinX4 : ∀ w ∈ wsX40, w ∈ wsX4_galleries := by decide +kernel
  have lk26 := hts (.fieldLink RX4 26 "Chamberwright" "rooms" "LChamberwright$Rooms;") (by decide +kernel)
  have hS : va_S A s.heap s.heap [] := va_S.rf
  have hP : va_P G.1 vwCl (w_C G c0 l0 l1 l2 l3 m0 m1 m2 m3 m4 m5 r0 r1 r2 r3 g0 g_e l_a l_b l_c l_n m_x m_y m_d m_t m_v m_n r_s r_n r_w r_k) s.heap := hP
  have hD : va_D A (w_C G c0 l0 l1 l2 l3 m0 m1 m2 m3 m4 m5 r0 r1 r2 r3 g0 g_e l_a l_b l_c l_n m_x m_y m_d m_t m_v m_n r_s r_n r_w r_k) := hD
  have hl : lv_has ls 3 [(0, .ref c0), (1, .int x1), (2, .int x2)] := hl
  obtain ⟨args, hargs⟩ : ∃ z : Array Value, z = ([.ref c0, .int x1, .int x2] : List Value).toArray := ⟨_, rfl⟩
  rw [← hargs]
  rw [← hargs] at hts
  rw [fX4_galleries.eq_1] at h
  refine lv_aload_n hx hb dX4_galleries_0 rfl (lv_at hl 0 rfl) ?_
  refine lv_iload_n hx hb dX4_galleries_1 rfl (lv_at hl 1 rfl) ?_
  obtain ⟨x_u_1385, hc_1386, hx_u_1385, h⟩ := bdx_inv h
  refine wafterx_v (wr := []) (vx_runV (As := [.int x1]) (rest := []) ⟨hx, hb, hml, hown, hts⟩ (kX4_checkRoom (l := l) hst (G := G) c0 l0 l1 l2 l3 m0 m1 m2 m3 m4 m5 r0 r1 r2 r3 g0 g_e l_a l_b l_c l_n m_x m_y m_d m_t m_v m_n r_s r_n r_w r_k x1 N x_u_1385 hc_1386 _) (cwV 1 hts gX4_galleries_X4_checkRoom rfl rfl rfl (by decide +kernel) ⟨Nat.le_of_ble_eq_true rfl, Nat.le_of_ble_eq_true rfl⟩) (wPreVX hP hD hK hS hA hT [0, 1, 2, 3, 4, 5, 6, 7, 8, 9, 10, 11, 12, 13, 14, 15] rfl rfl (ci := 4) (qb := 0) rfl rfl rfl) rfl rfl hl.1 rfl (lv_room (Nat.le_of_ble_eq_true rfl)) dX4_galleries_2 ⟨(Nat.le_of_ble_eq_true rfl), (Nat.le_of_ble_eq_true rfl)⟩) hP hD hS hA [0, 1, 2, 3, 4, 5, 6, 7, 8, 9, 10, 11, 12, 13, 14, 15] [] [0, 1, 2, 3, 4, 5, 6, 7, 8, 9, 10, 11, 12, 13, 14, 15] rfl rfl rfl (by decide) rfl rfl (fun E ce q9 H locs he hP hD hS hce hcv hcl => wpass_i hnoh hlocks hP hD hS hce hcv hcl (hx_u_1385 E he) (Nat.le_of_ble_eq_true rfl) (Nat.le_of_ble_eq_true rfl)) (fun u_1385 H locs hu hP hD hS => ?_)
  have h := h u_1385 hu
  have hP : va_P G.1 vwCl (w_C G c0 l0 l1 l2 l3 m0 m1 m2 m3 m4 m5 r0 r1 r2 r3 g0 g_e l_a l_b l_c l_n m_x m_y m_d m_t m_v m_n r_s r_n r_w r_k) H := hP.sub [0, 1, 2, 3, 4, 5, 6, 7, 8, 9, 10, 11, 12, 13, 14, 15] rfl
  have hD : va_D A (w_C G c0 l0 l1 l2 l3 m0 m1 m2 m3 m4 m5 r0 r1 r2 r3 g0 g_e l_a l_b l_c l_n m_x m_y m_d m_t m_v m_n r_s r_n r_w r_k) := hD.sub [0, 1, 2, 3, 4, 5, 6, 7, 8, 9, 10, 11, 12, 13, 14, 15] rfl rfl
  refine lv_aload_n hx hb dX4_galleries_5 rfl (lv_at hl 0 rfl) ?_
  refine lv_iload_n hx hb dX4_galleries_6 rfl (lv_at hl 2 rfl) ?_
  obtain ⟨x_u_1387, hc_1388, hx_u_1387, h⟩ := bdx_inv h
  refine wafterx_v (wr := []) (vx_runV (As := [.int x2]) (rest := []) ⟨hx, hb, hml, hown, hts⟩ (kX4_checkRoom (l := l) hst (G := G) c0 l0 l1 l2 l3 m0 m1 m2 m3 m4 m5 r0 r1 r2 r3 g0 g_e l_a l_b l_c l_n m_x m_y m_d m_t m_v m_n r_s r_n r_w r_k x2 N x_u_1387 hc_1388 _) (cwV 1 hts gX4_galleries_X4_checkRoom rfl rfl rfl (by decide +kernel) ⟨Nat.le_of_ble_eq_true rfl, Nat.le_of_ble_eq_true rfl⟩) (wPreVX hP hD hK hS hA hT [0, 1, 2, 3, 4, 5, 6, 7, 8, 9, 10, 11, 12, 13, 14, 15] rfl rfl (ci := 4) (qb := 0) rfl rfl rfl) rfl rfl hl.1 rfl (lv_room (Nat.le_of_ble_eq_true rfl)) dX4_galleries_7 ⟨(Nat.le_of_ble_eq_true rfl), (Nat.le_of_ble_eq_true rfl)⟩) hP hD hS hA [0, 1, 2, 3, 4, 5, 6, 7, 8, 9, 10, 11, 12, 13, 14, 15] [] [0, 1, 2, 3, 4, 5, 6, 7, 8, 9, 10, 11, 12, 13, 14, 15] rfl rfl rfl (by decide) rfl rfl (fun E ce q9 H locs he hP hD hS hce hcv hcl => wpass_i hnoh hlocks hP hD hS hce hcv hcl (hx_u_1387 E he) (Nat.le_of_ble_eq_true rfl) (Nat.le_of_ble_eq_true rfl)) (fun u_1387 H locs hu hP hD hS => ?_)
  have h := h u_1387 hu
  have hP : va_P G.1 vwCl (w_C G c0 l0 l1 l2 l3 m0 m1 m2 m3 m4 m5 r0 r1 r2 r3 g0 g_e l_a l_b l_c l_n m_x m_y m_d m_t m_v m_n r_s r_n r_w r_k) H := hP.sub [0, 1, 2, 3, 4, 5, 6, 7, 8, 9, 10, 11, 12, 13, 14, 15] rfl
  have hD : va_D A (w_C G c0 l0 l1 l2 l3 m0 m1 m2 m3 m4 m5 r0 r1 r2 r3 g0 g_e l_a l_b l_c l_n m_x m_y m_d m_t m_v m_n r_s r_n r_w r_k) := hD.sub [0, 1, 2, 3, 4, 5, 6, 7, 8, 9, 10, 11, 12, 13, 14, 15] rfl rfl
  refine lv_aload_n hx hb dX4_galleries_10 rfl (lv_at hl 0 rfl) ?_
  refine va_get (D := G.1) (ci := 4) (v := .ref r0) (C := RX4) (T := TX4) (N := 4) hx hb hts hinX4 hown hK.1 hP 0 rfl rfl 2 (by decide) lk26 (fun _ h9 => h9) rfl dX4_galleries_11 ?_
  refine lv_iload_n hx hb dX4_galleries_14 rfl (lv_at hl 1 rfl) ?_
  refine lv_iload_n hx hb dX4_galleries_15 rfl (lv_at hl 2 rfl) ?_
  obtain ⟨u_1389, hc_1390, h⟩ := bd_inv h
  refine wafter_i (wr := [(c0, .inr (4, [.ref l0, .ref m0, .ref r0, .ref g0])), (l0, .inr (1, [.ref l1, .ref l2, .ref l3, .int l_n])), (l1, .inl (G.2.1, 9, .inl l_a)), (l2, .inl (G.2.1, 9, .inl l_b)), (l3, .inl (G.2.1, 9, .inl l_c)), (m0, .inr (2, [.ref m1, .ref m2, .ref m3, .ref m4, .ref m5, .int m_n])), (m1, .inl (G.2.1, 36, .inl m_x)), (m2, .inl (G.2.1, 36, .inl m_y)), (m3, .inl (G.2.1, 36, .inl m_d)), (m4, .inl (G.2.1, 36, .inl m_t)), (m5, .inl (G.2.1, 36, .inl m_v)), (g0, .inr (0, [.long g_e]))]) (w2 := (w_C G c0 l0 l1 l2 l3 m0 m1 m2 m3 m4 m5 r0 r1 r2 r3 g0 g_e l_a l_b l_c l_n m_x m_y m_d m_t m_v m_n r_s r_n u_1389.2 r_k)) (va_runV (As := [.int x1, .int x2]) (rest := []) ⟨hx, hb, hml, hown, hts⟩ (kX3_shortestWays (l := l) (G := G) r0 r1 r2 r3 r_s r_n r_w r_k x1 x2 N u_1389 hc_1390 _) (cwV 2 hts gX4_galleries_X3_shortestWays rfl rfl rfl (by decide +kernel) ⟨Nat.le_of_ble_eq_true rfl, Nat.le_of_ble_eq_true rfl⟩) (wPreV hP hD hK [11, 12, 13, 14] rfl rfl (ci := 3) (qb := 11) rfl rfl rfl) rfl rfl hl.1 rfl (lv_room (Nat.le_of_ble_eq_true rfl)) dX4_galleries_16 ⟨Nat.le_of_ble_eq_true rfl, Nat.le_of_ble_eq_true rfl⟩) hP hD hS hA [11, 12, 13, 14] [0, 1, 2, 3, 4, 5, 6, 7, 8, 9, 10, 15] [0, 1, 2, 3, 4, 5, 6, 7, 8, 9, 10, 12, 13, 14, 15, 11] rfl rfl rfl (by decide) rfl rfl (fun H locs hP hD hS => ?_)
  obtain rfl := Option.some.inj h
  exact wrxi (ty := .int) (t0 := (u_1389.1, u_1389.2)) hx hb hr hlocks hP hD hS (Nat.le_of_ble_eq_true rfl) (Nat.le_of_ble_eq_true rfl) rfl rfl dX4_galleries_19
def fX4_gallery (N : Nat) (r_s : Nat → Int32) (r_n : Nat → Int32) (r_k : Int32) (x1 : Int32) (x2 : Int32) (x3 : Int32) : Option (String ⊕ (Int32)) := bdx (fX4_checkRoom N r_k x1) (fun u_1391 => bdx (fX4_checkRoom N r_k x2) (fun u_1393 => bdx (fX4_checkPlace N x3) (fun u_1395 => bd (fX3_onFirstWay N r_s r_n x1 x2 x3) (fun u_1397 => some (.inr u_1397)))))
set_option maxHeartbeats 4000000 in
set_option maxRecDepth 100000 in
theorem kX4_gallery {l : Launch} (hst : l.stackTraces = false) {G : wG} (c0 l0 l1 l2 l3 m0 m1 m2 m3 m4 m5 r0 r1 r2 r3 g0 : Nat) (g_e : Int64) (l_a : Nat → Int32) (l_b : Nat → Int32) (l_c : Nat → Int32) (l_n : Int32) (m_x : Nat → Int32) (m_y : Nat → Int32) (m_d : Nat → Int32) (m_t : Nat → Int32) (m_v : Nat → Int32) (m_n : Int32) (r_s : Nat → Int32) (r_n : Nat → Int32) (r_w : Nat → Int32) (r_k : Int32) (x1 : Int32) (x2 : Int32) (x3 : Int32) (N : Nat) (v : String ⊕ (Int32)) (h : fX4_gallery N r_s r_n r_k x1 x2 x3 = some v) : wXi l G yX4_gallery wsX4_gallery ({ frames := 7, cells := 4, slots := 24, locals := 121 } : Room) [.ref c0, .int x1, .int x2, .int x3] (w_C G c0 l0 l1 l2 l3 m0 m1 m2 m3 m4 m5 r0 r1 r2 r3 g0 g_e l_a l_b l_c l_n m_x m_y m_d m_t m_v m_n r_s r_n r_w r_k) v (fun t : Int32 => (w_C G c0 l0 l1 l2 l3 m0 m1 m2 m3 m4 m5 r0 r1 r2 r3 g0 g_e l_a l_b l_c l_n m_x m_y m_d m_t m_v m_n r_s r_n r_w r_k)) (fun t : Int32 => t) 4 24 := by
  refine wXi.mk (cc := cX4_gallery) (maxL := 4) (ty := .int) (by decide) rfl (Nat.le_of_ble_eq_true rfl) ?_
  intro p e s m below meth c A ls hx hb hml hr hlocks hts hown hK hA hP hD hT hnoh hl
  have hx : p.tables.exec = Jvm.exec := hx
  have hown : s.vm.findClass RX4 = some m.cls := hown
  have hinX4 : ∀ w ∈ wsX40, w ∈ wsX4_gallery := by decide +kernel
  have lk26 := hts (.fieldLink RX4 26 "Chamberwright" "rooms" "LChamberwright$Rooms;") (by decide +kernel)
  have hS : va_S A s.heap s.heap [] := va_S.rf
  have hP : va_P G.1 vwCl (w_C G c0 l0 l1 l2 l3 m0 m1 m2 m3 m4 m5 r0 r1 r2 r3 g0 g_e l_a l_b l_c l_n m_x m_y m_d m_t m_v m_n r_s r_n r_w r_k) s.heap := hP
  have hD : va_D A (w_C G c0 l0 l1 l2 l3 m0 m1 m2 m3 m4 m5 r0 r1 r2 r3 g0 g_e l_a l_b l_c l_n m_x m_y m_d m_t m_v m_n r_s r_n r_w r_k) := hD
  have hl : lv_has ls 4 [(0, .ref c0), (1, .int x1), (2, .int x2), (3, .int x3)] := hl
  obtain ⟨args, hargs⟩ : ∃ z : Array Value, z = ([.ref c0, .int x1, .int x2, .int x3] : List Value).toArray := ⟨_, rfl⟩
  rw [← hargs]
  rw [← hargs] at hts
  rw [fX4_gallery.eq_1] at h
  refine lv_aload_n hx hb dX4_gallery_0 rfl (lv_at hl 0 rfl) ?_
  refine lv_iload_n hx hb dX4_gallery_1 rfl (lv_at hl 1 rfl) ?_
  obtain ⟨x_u_1391, hc_1392, hx_u_1391, h⟩ := bdx_inv h
  refine wafterx_v (wr := []) (vx_runV (As := [.int x1]) (rest := []) ⟨hx, hb, hml, hown, hts⟩ (kX4_checkRoom (l := l) hst (G := G) c0 l0 l1 l2 l3 m0 m1 m2 m3 m4 m5 r0 r1 r2 r3 g0 g_e l_a l_b l_c l_n m_x m_y m_d m_t m_v m_n r_s r_n r_w r_k x1 N x_u_1391 hc_1392 _) (cwV 1 hts gX4_gallery_X4_checkRoom rfl rfl rfl (by decide +kernel) ⟨Nat.le_of_ble_eq_true rfl, Nat.le_of_ble_eq_true rfl⟩) (wPreVX hP hD hK hS hA hT [0, 1, 2, 3, 4, 5, 6, 7, 8, 9, 10, 11, 12, 13, 14, 15] rfl rfl (ci := 4) (qb := 0) rfl rfl rfl) rfl rfl hl.1 rfl (lv_room (Nat.le_of_ble_eq_true rfl)) dX4_gallery_2 ⟨(Nat.le_of_ble_eq_true rfl), (Nat.le_of_ble_eq_true rfl)⟩) hP hD hS hA [0, 1, 2, 3, 4, 5, 6, 7, 8, 9, 10, 11, 12, 13, 14, 15] [] [0, 1, 2, 3, 4, 5, 6, 7, 8, 9, 10, 11, 12, 13, 14, 15] rfl rfl rfl (by decide) rfl rfl (fun E ce q9 H locs he hP hD hS hce hcv hcl => wpass_i hnoh hlocks hP hD hS hce hcv hcl (hx_u_1391 E he) (Nat.le_of_ble_eq_true rfl) (Nat.le_of_ble_eq_true rfl)) (fun u_1391 H locs hu hP hD hS => ?_)
  have h := h u_1391 hu
  have hP : va_P G.1 vwCl (w_C G c0 l0 l1 l2 l3 m0 m1 m2 m3 m4 m5 r0 r1 r2 r3 g0 g_e l_a l_b l_c l_n m_x m_y m_d m_t m_v m_n r_s r_n r_w r_k) H := hP.sub [0, 1, 2, 3, 4, 5, 6, 7, 8, 9, 10, 11, 12, 13, 14, 15] rfl
  have hD : va_D A (w_C G c0 l0 l1 l2 l3 m0 m1 m2 m3 m4 m5 r0 r1 r2 r3 g0 g_e l_a l_b l_c l_n m_x m_y m_d m_t m_v m_n r_s r_n r_w r_k) := hD.sub [0, 1, 2, 3, 4, 5, 6, 7, 8, 9, 10, 11, 12, 13, 14, 15] rfl rfl
  refine lv_aload_n hx hb dX4_gallery_5 rfl (lv_at hl 0 rfl) ?_
  refine lv_iload_n hx hb dX4_gallery_6 rfl (lv_at hl 2 rfl) ?_
  obtain ⟨x_u_1393, hc_1394, hx_u_1393, h⟩ := bdx_inv h
  refine wafterx_v (wr := []) (vx_runV (As := [.int x2]) (rest := []) ⟨hx, hb, hml, hown, hts⟩ (kX4_checkRoom (l := l) hst (G := G) c0 l0 l1 l2 l3 m0 m1 m2 m3 m4 m5 r0 r1 r2 r3 g0 g_e l_a l_b l_c l_n m_x m_y m_d m_t m_v m_n r_s r_n r_w r_k x2 N x_u_1393 hc_1394 _) (cwV 1 hts gX4_gallery_X4_checkRoom rfl rfl rfl (by decide +kernel) ⟨Nat.le_of_ble_eq_true rfl, Nat.le_of_ble_eq_true rfl⟩) (wPreVX hP hD hK hS hA hT [0, 1, 2, 3, 4, 5, 6, 7, 8, 9, 10, 11, 12, 13, 14, 15] rfl rfl (ci := 4) (qb := 0) rfl rfl rfl) rfl rfl hl.1 rfl (lv_room (Nat.le_of_ble_eq_true rfl)) dX4_gallery_7 ⟨(Nat.le_of_ble_eq_true rfl), (Nat.le_of_ble_eq_true rfl)⟩) hP hD hS hA [0, 1, 2, 3, 4, 5, 6, 7, 8, 9, 10, 11, 12, 13, 14, 15] [] [0, 1, 2, 3, 4, 5, 6, 7, 8, 9, 10, 11, 12, 13, 14, 15] rfl rfl rfl (by decide) rfl rfl (fun E ce q9 H locs he hP hD hS hce hcv hcl => wpass_i hnoh hlocks hP hD hS hce hcv hcl (hx_u_1393 E he) (Nat.le_of_ble_eq_true rfl) (Nat.le_of_ble_eq_true rfl)) (fun u_1393 H locs hu hP hD hS => ?_)
  have h := h u_1393 hu
  have hP : va_P G.1 vwCl (w_C G c0 l0 l1 l2 l3 m0 m1 m2 m3 m4 m5 r0 r1 r2 r3 g0 g_e l_a l_b l_c l_n m_x m_y m_d m_t m_v m_n r_s r_n r_w r_k) H := hP.sub [0, 1, 2, 3, 4, 5, 6, 7, 8, 9, 10, 11, 12, 13, 14, 15] rfl
  have hD : va_D A (w_C G c0 l0 l1 l2 l3 m0 m1 m2 m3 m4 m5 r0 r1 r2 r3 g0 g_e l_a l_b l_c l_n m_x m_y m_d m_t m_v m_n r_s r_n r_w r_k) := hD.sub [0, 1, 2, 3, 4, 5, 6, 7, 8, 9, 10, 11, 12, 13, 14, 15] rfl rfl
  refine lv_iload_n hx hb dX4_gallery_10 rfl (lv_at hl 3 rfl) ?_
  obtain ⟨x_u_1395, hc_1396, hx_u_1395, h⟩ := bdx_inv h
  refine wafterx_v (wr := (w_C G c0 l0 l1 l2 l3 m0 m1 m2 m3 m4 m5 r0 r1 r2 r3 g0 g_e l_a l_b l_c l_n m_x m_y m_d m_t m_v m_n r_s r_n r_w r_k)) (vx_runS (As := [.int x3]) (rest := []) ⟨hx, hb, hml, hown, hts⟩ (kX4_checkPlace (l := l) hst (G := G)   x3 N x_u_1395 hc_1396 _) (va_cwS 1 hts gX4_gallery_X4_checkPlace rfl rfl rfl (by decide +kernel) ⟨Nat.le_of_ble_eq_true rfl, Nat.le_of_ble_eq_true rfl⟩) (wPreSX hP hD hK hS hA hT [] rfl rfl) rfl rfl hl.1 rfl (lv_room (Nat.le_of_ble_eq_true rfl)) dX4_gallery_11 ⟨(Nat.le_of_ble_eq_true rfl), (Nat.le_of_ble_eq_true rfl)⟩) hP hD hS hA [] [0, 1, 2, 3, 4, 5, 6, 7, 8, 9, 10, 11, 12, 13, 14, 15] [0, 1, 2, 3, 4, 5, 6, 7, 8, 9, 10, 11, 12, 13, 14, 15] rfl rfl rfl (by decide) rfl rfl (fun E ce q9 H locs he hP hD hS hce hcv hcl => wpass_i hnoh hlocks hP hD hS hce hcv hcl (hx_u_1395 E he) (Nat.le_of_ble_eq_true rfl) (Nat.le_of_ble_eq_true rfl)) (fun u_1395 H locs hu hP hD hS => ?_)
  have h := h u_1395 hu
  have hP : va_P G.1 vwCl (w_C G c0 l0 l1 l2 l3 m0 m1 m2 m3 m4 m5 r0 r1 r2 r3 g0 g_e l_a l_b l_c l_n m_x m_y m_d m_t m_v m_n r_s r_n r_w r_k) H := hP.sub [0, 1, 2, 3, 4, 5, 6, 7, 8, 9, 10, 11, 12, 13, 14, 15] rfl
  have hD : va_D A (w_C G c0 l0 l1 l2 l3 m0 m1 m2 m3 m4 m5 r0 r1 r2 r3 g0 g_e l_a l_b l_c l_n m_x m_y m_d m_t m_v m_n r_s r_n r_w r_k) := hD.sub [0, 1, 2, 3, 4, 5, 6, 7, 8, 9, 10, 11, 12, 13, 14, 15] rfl rfl
  refine lv_aload_n hx hb dX4_gallery_14 rfl (lv_at hl 0 rfl) ?_
  refine va_get (D := G.1) (ci := 4) (v := .ref r0) (C := RX4) (T := TX4) (N := 4) hx hb hts hinX4 hown hK.1 hP 0 rfl rfl 2 (by decide) lk26 (fun _ h9 => h9) rfl dX4_gallery_15 ?_
  refine lv_iload_n hx hb dX4_gallery_18 rfl (lv_at hl 1 rfl) ?_
  refine lv_iload_n hx hb dX4_gallery_19 rfl (lv_at hl 2 rfl) ?_
  refine lv_iload_n hx hb dX4_gallery_20 rfl (lv_at hl 3 rfl) ?_
  obtain ⟨u_1397, hc_1398, h⟩ := bd_inv h
  refine wafter_i (wr := [(c0, .inr (4, [.ref l0, .ref m0, .ref r0, .ref g0])), (l0, .inr (1, [.ref l1, .ref l2, .ref l3, .int l_n])), (l1, .inl (G.2.1, 9, .inl l_a)), (l2, .inl (G.2.1, 9, .inl l_b)), (l3, .inl (G.2.1, 9, .inl l_c)), (m0, .inr (2, [.ref m1, .ref m2, .ref m3, .ref m4, .ref m5, .int m_n])), (m1, .inl (G.2.1, 36, .inl m_x)), (m2, .inl (G.2.1, 36, .inl m_y)), (m3, .inl (G.2.1, 36, .inl m_d)), (m4, .inl (G.2.1, 36, .inl m_t)), (m5, .inl (G.2.1, 36, .inl m_v)), (g0, .inr (0, [.long g_e]))]) (w2 := (w_C G c0 l0 l1 l2 l3 m0 m1 m2 m3 m4 m5 r0 r1 r2 r3 g0 g_e l_a l_b l_c l_n m_x m_y m_d m_t m_v m_n r_s r_n r_w r_k)) (va_runV (As := [.int x1, .int x2, .int x3]) (rest := []) ⟨hx, hb, hml, hown, hts⟩ (kX3_onFirstWay (l := l) (G := G) r0 r1 r2 r3 r_s r_n r_w r_k x1 x2 x3 N u_1397 hc_1398 _) (cwV 3 hts gX4_gallery_X3_onFirstWay rfl rfl rfl (by decide +kernel) ⟨Nat.le_of_ble_eq_true rfl, Nat.le_of_ble_eq_true rfl⟩) (wPreV hP hD hK [11, 12, 13, 14] rfl rfl (ci := 3) (qb := 11) rfl rfl rfl) rfl rfl hl.1 rfl (lv_room (Nat.le_of_ble_eq_true rfl)) dX4_gallery_21 ⟨Nat.le_of_ble_eq_true rfl, Nat.le_of_ble_eq_true rfl⟩) hP hD hS hA [11, 12, 13, 14] [0, 1, 2, 3, 4, 5, 6, 7, 8, 9, 10, 15] [0, 1, 2, 3, 4, 5, 6, 7, 8, 9, 10, 12, 13, 14, 15, 11] rfl rfl rfl (by decide) rfl rfl (fun H locs hP hD hS => ?_)
  obtain rfl := Option.some.inj h
  exact wrxi (ty := .int) (t0 := u_1397) hx hb hr hlocks hP hD hS (Nat.le_of_ble_eq_true rfl) (Nat.le_of_ble_eq_true rfl) rfl rfl dX4_gallery_24
def fX4_project (N : Nat) (m_t : Nat → Int32) (m_v : Nat → Int32) (m_n : Int32) (r_s : Nat → Int32) (r_n : Nat → Int32) (r_k : Int32) (x1 : Int32) (x2 : Int32) : Option (String ⊕ (Int32)) := bdx (fX4_checkRoom N r_k x1) (fun u_1399 => bdx (fX4_checkMeet N m_n x2) (fun u_1401 => bd (fX3_set N r_s x1) (fun u_1403 => bd (fX2_projected N m_t m_v x2 u_1403) (fun u_1405 => bd (fX3_numberOf N r_n u_1405) (fun u_1407 => some (.inr u_1407))))))
set_option maxHeartbeats 4000000 in
set_option maxRecDepth 100000 in
theorem kX4_project {l : Launch} (hst : l.stackTraces = false) {G : wG} (c0 l0 l1 l2 l3 m0 m1 m2 m3 m4 m5 r0 r1 r2 r3 g0 : Nat) (g_e : Int64) (l_a : Nat → Int32) (l_b : Nat → Int32) (l_c : Nat → Int32) (l_n : Int32) (m_x : Nat → Int32) (m_y : Nat → Int32) (m_d : Nat → Int32) (m_t : Nat → Int32) (m_v : Nat → Int32) (m_n : Int32) (r_s : Nat → Int32) (r_n : Nat → Int32) (r_w : Nat → Int32) (r_k : Int32) (x1 : Int32) (x2 : Int32) (N : Nat) (v : String ⊕ (Int32)) (h : fX4_project N m_t m_v m_n r_s r_n r_k x1 x2 = some v) : wXi l G yX4_project wsX4_project ({ frames := 7, cells := 4, slots := 24, locals := 121 } : Room) [.ref c0, .int x1, .int x2] (w_C G c0 l0 l1 l2 l3 m0 m1 m2 m3 m4 m5 r0 r1 r2 r3 g0 g_e l_a l_b l_c l_n m_x m_y m_d m_t m_v m_n r_s r_n r_w r_k) v (fun t : Int32 => (w_C G c0 l0 l1 l2 l3 m0 m1 m2 m3 m4 m5 r0 r1 r2 r3 g0 g_e l_a l_b l_c l_n m_x m_y m_d m_t m_v m_n r_s r_n r_w r_k)) (fun t : Int32 => t) 4 24 := by
  refine wXi.mk (cc := cX4_project) (maxL := 3) (ty := .int) (by decide) rfl (Nat.le_of_ble_eq_true rfl) ?_
  intro p e s m below meth c A ls hx hb hml hr hlocks hts hown hK hA hP hD hT hnoh hl
  have hx : p.tables.exec = Jvm.exec := hx
  have hown : s.vm.findClass RX4 = some m.cls := hown
  have hinX4 : ∀ w ∈ wsX40, w ∈ wsX4_project := by decide +kernel
  have lk19 := hts (.fieldLink RX4 19 "Chamberwright" "meets" "LChamberwright$Meets;") (by decide +kernel)
  have lk26 := hts (.fieldLink RX4 26 "Chamberwright" "rooms" "LChamberwright$Rooms;") (by decide +kernel)
  have hS : va_S A s.heap s.heap [] := va_S.rf
  have hP : va_P G.1 vwCl (w_C G c0 l0 l1 l2 l3 m0 m1 m2 m3 m4 m5 r0 r1 r2 r3 g0 g_e l_a l_b l_c l_n m_x m_y m_d m_t m_v m_n r_s r_n r_w r_k) s.heap := hP
  have hD : va_D A (w_C G c0 l0 l1 l2 l3 m0 m1 m2 m3 m4 m5 r0 r1 r2 r3 g0 g_e l_a l_b l_c l_n m_x m_y m_d m_t m_v m_n r_s r_n r_w r_k) := hD
  have hl : lv_has ls 3 [(0, .ref c0), (1, .int x1), (2, .int x2)] := hl
  obtain ⟨args, hargs⟩ : ∃ z : Array Value, z = ([.ref c0, .int x1, .int x2] : List Value).toArray := ⟨_, rfl⟩
  rw [← hargs]
  rw [← hargs] at hts
  rw [fX4_project.eq_1] at h
  refine lv_aload_n hx hb dX4_project_0 rfl (lv_at hl 0 rfl) ?_
  refine lv_iload_n hx hb dX4_project_1 rfl (lv_at hl 1 rfl) ?_
  obtain ⟨x_u_1399, hc_1400, hx_u_1399, h⟩ := bdx_inv h
  refine wafterx_v (wr := []) (vx_runV (As := [.int x1]) (rest := []) ⟨hx, hb, hml, hown, hts⟩ (kX4_checkRoom (l := l) hst (G := G) c0 l0 l1 l2 l3 m0 m1 m2 m3 m4 m5 r0 r1 r2 r3 g0 g_e l_a l_b l_c l_n m_x m_y m_d m_t m_v m_n r_s r_n r_w r_k x1 N x_u_1399 hc_1400 _) (cwV 1 hts gX4_project_X4_checkRoom rfl rfl rfl (by decide +kernel) ⟨Nat.le_of_ble_eq_true rfl, Nat.le_of_ble_eq_true rfl⟩) (wPreVX hP hD hK hS hA hT [0, 1, 2, 3, 4, 5, 6, 7, 8, 9, 10, 11, 12, 13, 14, 15] rfl rfl (ci := 4) (qb := 0) rfl rfl rfl) rfl rfl hl.1 rfl (lv_room (Nat.le_of_ble_eq_true rfl)) dX4_project_2 ⟨(Nat.le_of_ble_eq_true rfl), (Nat.le_of_ble_eq_true rfl)⟩) hP hD hS hA [0, 1, 2, 3, 4, 5, 6, 7, 8, 9, 10, 11, 12, 13, 14, 15] [] [0, 1, 2, 3, 4, 5, 6, 7, 8, 9, 10, 11, 12, 13, 14, 15] rfl rfl rfl (by decide) rfl rfl (fun E ce q9 H locs he hP hD hS hce hcv hcl => wpass_i hnoh hlocks hP hD hS hce hcv hcl (hx_u_1399 E he) (Nat.le_of_ble_eq_true rfl) (Nat.le_of_ble_eq_true rfl)) (fun u_1399 H locs hu hP hD hS => ?_)
  have h := h u_1399 hu
  have hP : va_P G.1 vwCl (w_C G c0 l0 l1 l2 l3 m0 m1 m2 m3 m4 m5 r0 r1 r2 r3 g0 g_e l_a l_b l_c l_n m_x m_y m_d m_t m_v m_n r_s r_n r_w r_k) H := hP.sub [0, 1, 2, 3, 4, 5, 6, 7, 8, 9, 10, 11, 12, 13, 14, 15] rfl
  have hD : va_D A (w_C G c0 l0 l1 l2 l3 m0 m1 m2 m3 m4 m5 r0 r1 r2 r3 g0 g_e l_a l_b l_c l_n m_x m_y m_d m_t m_v m_n r_s r_n r_w r_k) := hD.sub [0, 1, 2, 3, 4, 5, 6, 7, 8, 9, 10, 11, 12, 13, 14, 15] rfl rfl
  refine lv_aload_n hx hb dX4_project_5 rfl (lv_at hl 0 rfl) ?_
  refine lv_iload_n hx hb dX4_project_6 rfl (lv_at hl 2 rfl) ?_
  obtain ⟨x_u_1401, hc_1402, hx_u_1401, h⟩ := bdx_inv h
  refine wafterx_v (wr := []) (vx_runV (As := [.int x2]) (rest := []) ⟨hx, hb, hml, hown, hts⟩ (kX4_checkMeet (l := l) hst (G := G) c0 l0 l1 l2 l3 m0 m1 m2 m3 m4 m5 r0 r1 r2 r3 g0 g_e l_a l_b l_c l_n m_x m_y m_d m_t m_v m_n r_s r_n r_w r_k x2 N x_u_1401 hc_1402 _) (cwV 1 hts gX4_project_X4_checkMeet rfl rfl rfl (by decide +kernel) ⟨Nat.le_of_ble_eq_true rfl, Nat.le_of_ble_eq_true rfl⟩) (wPreVX hP hD hK hS hA hT [0, 1, 2, 3, 4, 5, 6, 7, 8, 9, 10, 11, 12, 13, 14, 15] rfl rfl (ci := 4) (qb := 0) rfl rfl rfl) rfl rfl hl.1 rfl (lv_room (Nat.le_of_ble_eq_true rfl)) dX4_project_7 ⟨(Nat.le_of_ble_eq_true rfl), (Nat.le_of_ble_eq_true rfl)⟩) hP hD hS hA [0, 1, 2, 3, 4, 5, 6, 7, 8, 9, 10, 11, 12, 13, 14, 15] [] [0, 1, 2, 3, 4, 5, 6, 7, 8, 9, 10, 11, 12, 13, 14, 15] rfl rfl rfl (by decide) rfl rfl (fun E ce q9 H locs he hP hD hS hce hcv hcl => wpass_i hnoh hlocks hP hD hS hce hcv hcl (hx_u_1401 E he) (Nat.le_of_ble_eq_true rfl) (Nat.le_of_ble_eq_true rfl)) (fun u_1401 H locs hu hP hD hS => ?_)
  have h := h u_1401 hu
  have hP : va_P G.1 vwCl (w_C G c0 l0 l1 l2 l3 m0 m1 m2 m3 m4 m5 r0 r1 r2 r3 g0 g_e l_a l_b l_c l_n m_x m_y m_d m_t m_v m_n r_s r_n r_w r_k) H := hP.sub [0, 1, 2, 3, 4, 5, 6, 7, 8, 9, 10, 11, 12, 13, 14, 15] rfl
  have hD : va_D A (w_C G c0 l0 l1 l2 l3 m0 m1 m2 m3 m4 m5 r0 r1 r2 r3 g0 g_e l_a l_b l_c l_n m_x m_y m_d m_t m_v m_n r_s r_n r_w r_k) := hD.sub [0, 1, 2, 3, 4, 5, 6, 7, 8, 9, 10, 11, 12, 13, 14, 15] rfl rfl
  refine lv_aload_n hx hb dX4_project_10 rfl (lv_at hl 0 rfl) ?_
  refine va_get (D := G.1) (ci := 4) (v := .ref r0) (C := RX4) (T := TX4) (N := 4) hx hb hts hinX4 hown hK.1 hP 0 rfl rfl 2 (by decide) lk26 (fun _ h9 => h9) rfl dX4_project_11 ?_
  refine lv_aload_n hx hb dX4_project_14 rfl (lv_at hl 0 rfl) ?_
  refine va_get (D := G.1) (ci := 4) (v := .ref m0) (C := RX4) (T := TX4) (N := 4) hx hb hts hinX4 hown hK.1 hP 0 rfl rfl 1 (by decide) lk19 (fun _ h9 => h9) rfl dX4_project_15 ?_
  refine lv_iload_n hx hb dX4_project_18 rfl (lv_at hl 2 rfl) ?_
  refine lv_aload_n hx hb dX4_project_19 rfl (lv_at hl 0 rfl) ?_
  refine va_get (D := G.1) (ci := 4) (v := .ref r0) (C := RX4) (T := TX4) (N := 4) hx hb hts hinX4 hown hK.1 hP 0 rfl rfl 2 (by decide) lk26 (fun _ h9 => h9) rfl dX4_project_20 ?_
  refine lv_iload_n hx hb dX4_project_23 rfl (lv_at hl 1 rfl) ?_
  obtain ⟨u_1403, hc_1404, h⟩ := bd_inv h
  refine wafter_i (wr := [(c0, .inr (4, [.ref l0, .ref m0, .ref r0, .ref g0])), (l0, .inr (1, [.ref l1, .ref l2, .ref l3, .int l_n])), (l1, .inl (G.2.1, 9, .inl l_a)), (l2, .inl (G.2.1, 9, .inl l_b)), (l3, .inl (G.2.1, 9, .inl l_c)), (m0, .inr (2, [.ref m1, .ref m2, .ref m3, .ref m4, .ref m5, .int m_n])), (m1, .inl (G.2.1, 36, .inl m_x)), (m2, .inl (G.2.1, 36, .inl m_y)), (m3, .inl (G.2.1, 36, .inl m_d)), (m4, .inl (G.2.1, 36, .inl m_t)), (m5, .inl (G.2.1, 36, .inl m_v)), (g0, .inr (0, [.long g_e]))]) (w2 := (w_C G c0 l0 l1 l2 l3 m0 m1 m2 m3 m4 m5 r0 r1 r2 r3 g0 g_e l_a l_b l_c l_n m_x m_y m_d m_t m_v m_n r_s r_n r_w r_k)) (va_runV (As := [.int x1]) (rest := [.int x2, .ref m0, .ref r0]) ⟨hx, hb, hml, hown, hts⟩ (kX3_set (l := l) (G := G) r0 r1 r2 r3 r_s r_n r_w r_k x1 N u_1403 hc_1404 _) (cwV 1 hts gX4_project_X3_set rfl rfl rfl (by decide +kernel) ⟨Nat.le_of_ble_eq_true rfl, Nat.le_of_ble_eq_true rfl⟩) (wPreV hP hD hK [11, 12, 13, 14] rfl rfl (ci := 3) (qb := 11) rfl rfl rfl) rfl rfl hl.1 rfl (lv_room (Nat.le_of_ble_eq_true rfl)) dX4_project_24 ⟨Nat.le_of_ble_eq_true rfl, Nat.le_of_ble_eq_true rfl⟩) hP hD hS hA [11, 12, 13, 14] [0, 1, 2, 3, 4, 5, 6, 7, 8, 9, 10, 15] [0, 1, 2, 3, 4, 5, 6, 7, 8, 9, 10, 12, 13, 14, 15, 11] rfl rfl rfl (by decide) rfl rfl (fun H locs hP hD hS => ?_)
  obtain ⟨u_1405, hc_1406, h⟩ := bd_inv h
  refine wafter_i (wr := [(c0, .inr (4, [.ref l0, .ref m0, .ref r0, .ref g0])), (l0, .inr (1, [.ref l1, .ref l2, .ref l3, .int l_n])), (l1, .inl (G.2.1, 9, .inl l_a)), (l2, .inl (G.2.1, 9, .inl l_b)), (l3, .inl (G.2.1, 9, .inl l_c)), (r0, .inr (3, [.ref r1, .ref r2, .ref r3, .int r_k])), (r1, .inl (G.2.1, 46, .inl r_s)), (r2, .inl (G.2.1, 512, .inl r_n)), (r3, .inl (G.2.1, 512, .inl r_w)), (g0, .inr (0, [.long g_e]))]) (w2 := (w_C G c0 l0 l1 l2 l3 m0 m1 m2 m3 m4 m5 r0 r1 r2 r3 g0 g_e l_a l_b l_c l_n m_x m_y m_d m_t m_v m_n r_s r_n r_w r_k)) (va_runV (As := [.int x2, .int u_1403]) (rest := [.ref r0]) ⟨hx, hb, hml, hown, hts⟩ (kX2_projected (l := l) (G := G) m0 m1 m2 m3 m4 m5 m_x m_y m_d m_t m_v m_n x2 u_1403 N u_1405 hc_1406 _) (cwV 2 hts gX4_project_X2_projected rfl rfl rfl (by decide +kernel) ⟨Nat.le_of_ble_eq_true rfl, Nat.le_of_ble_eq_true rfl⟩) (wPreV hP hD hK [5, 6, 7, 8, 9, 10] rfl rfl (ci := 2) (qb := 5) rfl rfl rfl) rfl rfl hl.1 rfl (lv_room (Nat.le_of_ble_eq_true rfl)) dX4_project_27 ⟨Nat.le_of_ble_eq_true rfl, Nat.le_of_ble_eq_true rfl⟩) hP hD hS hA [5, 6, 7, 8, 9, 10] [0, 1, 2, 3, 4, 11, 12, 13, 14, 15] [0, 1, 2, 3, 4, 10, 11, 12, 13, 14, 15, 5, 6, 7, 8, 9] rfl rfl rfl (by decide) rfl rfl (fun H locs hP hD hS => ?_)
  obtain ⟨u_1407, hc_1408, h⟩ := bd_inv h
  refine wafter_i (wr := [(c0, .inr (4, [.ref l0, .ref m0, .ref r0, .ref g0])), (l0, .inr (1, [.ref l1, .ref l2, .ref l3, .int l_n])), (l1, .inl (G.2.1, 9, .inl l_a)), (l2, .inl (G.2.1, 9, .inl l_b)), (l3, .inl (G.2.1, 9, .inl l_c)), (m0, .inr (2, [.ref m1, .ref m2, .ref m3, .ref m4, .ref m5, .int m_n])), (m1, .inl (G.2.1, 36, .inl m_x)), (m2, .inl (G.2.1, 36, .inl m_y)), (m3, .inl (G.2.1, 36, .inl m_d)), (m4, .inl (G.2.1, 36, .inl m_t)), (m5, .inl (G.2.1, 36, .inl m_v)), (g0, .inr (0, [.long g_e]))]) (w2 := (w_C G c0 l0 l1 l2 l3 m0 m1 m2 m3 m4 m5 r0 r1 r2 r3 g0 g_e l_a l_b l_c l_n m_x m_y m_d m_t m_v m_n r_s r_n r_w r_k)) (va_runV (As := [.int u_1405]) (rest := []) ⟨hx, hb, hml, hown, hts⟩ (kX3_numberOf (l := l) (G := G) r0 r1 r2 r3 r_s r_n r_w r_k u_1405 N u_1407 hc_1408 _) (cwV 1 hts gX4_project_X3_numberOf rfl rfl rfl (by decide +kernel) ⟨Nat.le_of_ble_eq_true rfl, Nat.le_of_ble_eq_true rfl⟩) (wPreV hP hD hK [11, 12, 13, 14] rfl rfl (ci := 3) (qb := 11) rfl rfl rfl) rfl rfl hl.1 rfl (lv_room (Nat.le_of_ble_eq_true rfl)) dX4_project_30 ⟨Nat.le_of_ble_eq_true rfl, Nat.le_of_ble_eq_true rfl⟩) hP hD hS hA [11, 12, 13, 14] [0, 1, 2, 3, 4, 5, 6, 7, 8, 9, 10, 15] [0, 1, 2, 3, 4, 5, 6, 7, 8, 9, 10, 12, 13, 14, 15, 11] rfl rfl rfl (by decide) rfl rfl (fun H locs hP hD hS => ?_)
  obtain rfl := Option.some.inj h
  exact wrxi (ty := .int) (t0 := u_1407) hx hb hr hlocks hP hD hS (Nat.le_of_ble_eq_true rfl) (Nat.le_of_ble_eq_true rfl) rfl rfl dX4_project_33
def fX4_best_b37 (N : Nat) (l_a : Nat → Int32) (l_b : Nat → Int32) (l_n : Int32) (m_x : Nat → Int32) (m_y : Nat → Int32) (m_d : Nat → Int32) (m_t : Nat → Int32) (m_v : Nat → Int32) (m_n : Int32) (r_s : Nat → Int32) (x1 : Int32) (x2 : Int32) (x3 : Int32) : Option (String ⊕ (Int32)) := bd (fX3_hasBound N l_a l_b l_n r_s x1 x2 x3) (fun u_1409 => if u_1409 = 0 then some (.inr ((-1))) else bd (fX3_set N r_s x1) (fun u_1412 => bd (fX2_bestCorner N m_x m_y m_d m_t m_v m_n u_1412 x2 x3) (fun u_1414 => some (.inr u_1414))))
def fX4_best (N : Nat) (l_a : Nat → Int32) (l_b : Nat → Int32) (l_n : Int32) (m_x : Nat → Int32) (m_y : Nat → Int32) (m_d : Nat → Int32) (m_t : Nat → Int32) (m_v : Nat → Int32) (m_n : Int32) (r_s : Nat → Int32) (r_k : Int32) (x1 : Int32) (x2 : Int32) (x3 : Int32) : Option (String ⊕ (Int32)) := bdx (fX4_checkRoom N r_k x1) (fun u_1416 => bd (fX4_isTooFar N x2) (fun u_1418 => if u_1418 = 0 then bd (fX4_isTooFar N x3) (fun u_1421 => if u_1421 = 0 then if x2 = 0 then if x3 = 0 then some (.inl xIAE) else fX4_best_b37 N l_a l_b l_n m_x m_y m_d m_t m_v m_n r_s x1 x2 x3 else fX4_best_b37 N l_a l_b l_n m_x m_y m_d m_t m_v m_n r_s x1 x2 x3 else some (.inl xIAE)) else some (.inl xIAE)))
set_option maxHeartbeats 4000000 in
set_option maxRecDepth 100000 in
theorem kX4_best {l : Launch} (hst : l.stackTraces = false) {G : wG} (c0 l0 l1 l2 l3 m0 m1 m2 m3 m4 m5 r0 r1 r2 r3 g0 : Nat) (g_e : Int64) (l_a : Nat → Int32) (l_b : Nat → Int32) (l_c : Nat → Int32) (l_n : Int32) (m_x : Nat → Int32) (m_y : Nat → Int32) (m_d : Nat → Int32) (m_t : Nat → Int32) (m_v : Nat → Int32) (m_n : Int32) (r_s : Nat → Int32) (r_n : Nat → Int32) (r_w : Nat → Int32) (r_k : Int32) (x1 : Int32) (x2 : Int32) (x3 : Int32) (N : Nat) (v : String ⊕ (Int32)) (h : fX4_best N l_a l_b l_n m_x m_y m_d m_t m_v m_n r_s r_k x1 x2 x3 = some v) : wXi l G yX4_best wsX4_best ({ frames := 7, cells := 4, slots := 24, locals := 121 } : Room) [.ref c0, .int x1, .int x2, .int x3] (w_C G c0 l0 l1 l2 l3 m0 m1 m2 m3 m4 m5 r0 r1 r2 r3 g0 g_e l_a l_b l_c l_n m_x m_y m_d m_t m_v m_n r_s r_n r_w r_k) v (fun t : Int32 => (w_C G c0 l0 l1 l2 l3 m0 m1 m2 m3 m4 m5 r0 r1 r2 r3 g0 g_e l_a l_b l_c l_n m_x m_y m_d m_t m_v m_n r_s r_n r_w r_k)) (fun t : Int32 => t) 4 24 := by
  refine wXi.mk (cc := cX4_best) (maxL := 4) (ty := .int) (by decide) rfl (Nat.le_of_ble_eq_true rfl) ?_
  intro p e s m below meth c A ls hx hb hml hr hlocks hts hown hK hA hP hD hT hnoh hl
  have hx : p.tables.exec = Jvm.exec := hx
  have hown : s.vm.findClass RX4 = some m.cls := hown
  have hinX4 : ∀ w ∈ wsX40, w ∈ wsX4_best := by decide +kernel
  have lk10 := hts (.fieldLink RX4 10 "Chamberwright" "lines" "LChamberwright$Lines;") (by decide +kernel)
  have lk19 := hts (.fieldLink RX4 19 "Chamberwright" "meets" "LChamberwright$Meets;") (by decide +kernel)
  have lk26 := hts (.fieldLink RX4 26 "Chamberwright" "rooms" "LChamberwright$Rooms;") (by decide +kernel)
  have lxIAE := hts (.classLink RX4 41 xIAE) (by decide +kernel)
  have iniIAE := hts (.initialized xIAE) (by decide +kernel)
  have gwIAE : ∀ w ∈ (vx_atS RX4 45 xIAE xNms).filter goodWord, w.before _ s = true := fun w hw => hts w ((by decide +kernel : ∀ w ∈ (vx_atS RX4 45 xIAE xNms).filter goodWord, w ∈ wsX4_best) w hw)
  have hS : va_S A s.heap s.heap [] := va_S.rf
  have hP : va_P G.1 vwCl (w_C G c0 l0 l1 l2 l3 m0 m1 m2 m3 m4 m5 r0 r1 r2 r3 g0 g_e l_a l_b l_c l_n m_x m_y m_d m_t m_v m_n r_s r_n r_w r_k) s.heap := hP
  have hD : va_D A (w_C G c0 l0 l1 l2 l3 m0 m1 m2 m3 m4 m5 r0 r1 r2 r3 g0 g_e l_a l_b l_c l_n m_x m_y m_d m_t m_v m_n r_s r_n r_w r_k) := hD
  have hl : lv_has ls 4 [(0, .ref c0), (1, .int x1), (2, .int x2), (3, .int x3)] := hl
  obtain ⟨args, hargs⟩ : ∃ z : Array Value, z = ([.ref c0, .int x1, .int x2, .int x3] : List Value).toArray := ⟨_, rfl⟩
  rw [← hargs]
  rw [← hargs] at hts
  rw [← hargs] at lxIAE iniIAE gwIAE
  have w_37 : ∀ (x1 : Int32) (x2 : Int32) (x3 : Int32)   (H : Heap) (locs : List Loc) (ls : Array Slot), va_P G.1 vwCl (w_C G c0 l0 l1 l2 l3 m0 m1 m2 m3 m4 m5 r0 r1 r2 r3 g0 g_e l_a l_b l_c l_n m_x m_y m_d m_t m_v m_n r_s r_n r_w r_k) H → va_D A (w_C G c0 l0 l1 l2 l3 m0 m1 m2 m3 m4 m5 r0 r1 r2 r3 g0 g_e l_a l_b l_c l_n m_x m_y m_d m_t m_v m_n r_s r_n r_w r_k) → va_S A s.heap H locs → lv_has ls 4 [(0, .ref c0), (1, .int x1), (2, .int x2), (3, .int x3)] → fX4_best_b37 N l_a l_b l_n m_x m_y m_d m_t m_v m_n r_s x1 x2 x3 = some v → W p l e ({ frames := 7, cells := 4, slots := 24, locals := 121 } : Room) s m args below meth c H locs 3 18 (wQxi G A below args s (w_C G c0 l0 l1 l2 l3 m0 m1 m2 m3 m4 m5 r0 r1 r2 r3 g0 g_e l_a l_b l_c l_n m_x m_y m_d m_t m_v m_n r_s r_n r_w r_k) v (fun t : Int32 => (w_C G c0 l0 l1 l2 l3 m0 m1 m2 m3 m4 m5 r0 r1 r2 r3 g0 g_e l_a l_b l_c l_n m_x m_y m_d m_t m_v m_n r_s r_n r_w r_k)) (fun t : Int32 => t) 4 24) (F0 m 37 ls []) := by
    intro x1 x2 x3 H locs ls hP hD hS hl h
    rw [fX4_best_b37.eq_1] at h
    refine lv_aload_n hx hb dX4_best_37 rfl (lv_at hl 0 rfl) ?_
    refine va_get (D := G.1) (ci := 4) (v := .ref r0) (C := RX4) (T := TX4) (N := 4) hx hb hts hinX4 hown hK.1 hP 0 rfl rfl 2 (by decide) lk26 (fun _ h9 => h9) rfl dX4_best_38 ?_
    refine lv_aload_n hx hb dX4_best_41 rfl (lv_at hl 0 rfl) ?_
    refine va_get (D := G.1) (ci := 4) (v := .ref l0) (C := RX4) (T := TX4) (N := 4) hx hb hts hinX4 hown hK.1 hP 0 rfl rfl 0 (by decide) lk10 (fun _ h9 => h9) rfl dX4_best_42 ?_
    refine lv_iload_n hx hb dX4_best_45 rfl (lv_at hl 1 rfl) ?_
    refine lv_iload_n hx hb dX4_best_46 rfl (lv_at hl 2 rfl) ?_
    refine lv_iload_n hx hb dX4_best_47 rfl (lv_at hl 3 rfl) ?_
    obtain ⟨u_1409, hc_1410, h⟩ := bd_inv h
    refine wafter_i (wr := [(c0, .inr (4, [.ref l0, .ref m0, .ref r0, .ref g0])), (m0, .inr (2, [.ref m1, .ref m2, .ref m3, .ref m4, .ref m5, .int m_n])), (m1, .inl (G.2.1, 36, .inl m_x)), (m2, .inl (G.2.1, 36, .inl m_y)), (m3, .inl (G.2.1, 36, .inl m_d)), (m4, .inl (G.2.1, 36, .inl m_t)), (m5, .inl (G.2.1, 36, .inl m_v)), (g0, .inr (0, [.long g_e]))]) (w2 := (w_C G c0 l0 l1 l2 l3 m0 m1 m2 m3 m4 m5 r0 r1 r2 r3 g0 g_e l_a l_b l_c l_n m_x m_y m_d m_t m_v m_n r_s r_n r_w r_k)) (va_runV (As := [.ref l0, .int x1, .int x2, .int x3]) (rest := []) ⟨hx, hb, hml, hown, hts⟩ (kX3_hasBound (l := l) (G := G) r0 r1 r2 r3 l0 l1 l2 l3 l_a l_b l_c l_n r_s r_n r_w r_k x1 x2 x3 N u_1409 hc_1410 _) (cwV 4 hts gX4_best_X3_hasBound rfl rfl rfl (by decide +kernel) ⟨Nat.le_of_ble_eq_true rfl, Nat.le_of_ble_eq_true rfl⟩) (wPreV hP hD hK [11, 12, 13, 14, 1, 2, 3, 4] rfl rfl (ci := 3) (qb := 11) rfl rfl rfl) rfl rfl hl.1 rfl (lv_room (Nat.le_of_ble_eq_true rfl)) dX4_best_48 ⟨Nat.le_of_ble_eq_true rfl, Nat.le_of_ble_eq_true rfl⟩) hP hD hS hA [11, 12, 13, 14, 1, 2, 3, 4] [0, 5, 6, 7, 8, 9, 10, 15] [0, 12, 13, 14, 15, 1, 2, 3, 4, 5, 6, 8, 9, 10, 11, 7] rfl rfl rfl (by decide) rfl rfl (fun H locs hP hD hS => ?_)
    refine lv_if_eq (tgt := 74) hx hb dX4_best_51 (by decide) (fun c_1411 => ?_) (fun c_1411 => ?_)
    · have h := ip c_1411 h
      refine lv_iconst (v := (-1)) hx hb dX4_best_74 (by decide) ?_
      obtain rfl := Option.some.inj h
      exact wrxi (ty := .int) (t0 := ((-1))) hx hb hr hlocks hP hD hS (Nat.le_of_ble_eq_true rfl) (Nat.le_of_ble_eq_true rfl) rfl rfl dX4_best_75
    · have h := iq c_1411 h
      refine lv_aload_n hx hb dX4_best_54 rfl (lv_at hl 0 rfl) ?_
      refine va_get (D := G.1) (ci := 4) (v := .ref m0) (C := RX4) (T := TX4) (N := 4) hx hb hts hinX4 hown hK.1 hP 0 rfl rfl 1 (by decide) lk19 (fun _ h9 => h9) rfl dX4_best_55 ?_
      refine lv_aload_n hx hb dX4_best_58 rfl (lv_at hl 0 rfl) ?_
      refine va_get (D := G.1) (ci := 4) (v := .ref r0) (C := RX4) (T := TX4) (N := 4) hx hb hts hinX4 hown hK.1 hP 0 rfl rfl 2 (by decide) lk26 (fun _ h9 => h9) rfl dX4_best_59 ?_
      refine lv_iload_n hx hb dX4_best_62 rfl (lv_at hl 1 rfl) ?_
      obtain ⟨u_1412, hc_1413, h⟩ := bd_inv h
      refine wafter_i (wr := [(c0, .inr (4, [.ref l0, .ref m0, .ref r0, .ref g0])), (l0, .inr (1, [.ref l1, .ref l2, .ref l3, .int l_n])), (l1, .inl (G.2.1, 9, .inl l_a)), (l2, .inl (G.2.1, 9, .inl l_b)), (l3, .inl (G.2.1, 9, .inl l_c)), (m0, .inr (2, [.ref m1, .ref m2, .ref m3, .ref m4, .ref m5, .int m_n])), (m1, .inl (G.2.1, 36, .inl m_x)), (m2, .inl (G.2.1, 36, .inl m_y)), (m3, .inl (G.2.1, 36, .inl m_d)), (m4, .inl (G.2.1, 36, .inl m_t)), (m5, .inl (G.2.1, 36, .inl m_v)), (g0, .inr (0, [.long g_e]))]) (w2 := (w_C G c0 l0 l1 l2 l3 m0 m1 m2 m3 m4 m5 r0 r1 r2 r3 g0 g_e l_a l_b l_c l_n m_x m_y m_d m_t m_v m_n r_s r_n r_w r_k)) (va_runV (As := [.int x1]) (rest := [.ref m0]) ⟨hx, hb, hml, hown, hts⟩ (kX3_set (l := l) (G := G) r0 r1 r2 r3 r_s r_n r_w r_k x1 N u_1412 hc_1413 _) (cwV 1 hts gX4_best_X3_set rfl rfl rfl (by decide +kernel) ⟨Nat.le_of_ble_eq_true rfl, Nat.le_of_ble_eq_true rfl⟩) (wPreV hP hD hK [11, 12, 13, 14] rfl rfl (ci := 3) (qb := 11) rfl rfl rfl) rfl rfl hl.1 rfl (lv_room (Nat.le_of_ble_eq_true rfl)) dX4_best_63 ⟨Nat.le_of_ble_eq_true rfl, Nat.le_of_ble_eq_true rfl⟩) hP hD hS hA [11, 12, 13, 14] [0, 1, 2, 3, 4, 5, 6, 7, 8, 9, 10, 15] [0, 1, 2, 3, 4, 5, 6, 7, 8, 9, 10, 12, 13, 14, 15, 11] rfl rfl rfl (by decide) rfl rfl (fun H locs hP hD hS => ?_)
      refine lv_iload_n hx hb dX4_best_66 rfl (lv_at hl 2 rfl) ?_
      refine lv_iload_n hx hb dX4_best_67 rfl (lv_at hl 3 rfl) ?_
      obtain ⟨u_1414, hc_1415, h⟩ := bd_inv h
      refine wafter_i (wr := [(c0, .inr (4, [.ref l0, .ref m0, .ref r0, .ref g0])), (l0, .inr (1, [.ref l1, .ref l2, .ref l3, .int l_n])), (l1, .inl (G.2.1, 9, .inl l_a)), (l2, .inl (G.2.1, 9, .inl l_b)), (l3, .inl (G.2.1, 9, .inl l_c)), (r0, .inr (3, [.ref r1, .ref r2, .ref r3, .int r_k])), (r1, .inl (G.2.1, 46, .inl r_s)), (r2, .inl (G.2.1, 512, .inl r_n)), (r3, .inl (G.2.1, 512, .inl r_w)), (g0, .inr (0, [.long g_e]))]) (w2 := (w_C G c0 l0 l1 l2 l3 m0 m1 m2 m3 m4 m5 r0 r1 r2 r3 g0 g_e l_a l_b l_c l_n m_x m_y m_d m_t m_v m_n r_s r_n r_w r_k)) (va_runV (As := [.int u_1412, .int x2, .int x3]) (rest := []) ⟨hx, hb, hml, hown, hts⟩ (kX2_bestCorner (l := l) (G := G) m0 m1 m2 m3 m4 m5 m_x m_y m_d m_t m_v m_n u_1412 x2 x3 N u_1414 hc_1415 _) (cwV 3 hts gX4_best_X2_bestCorner rfl rfl rfl (by decide +kernel) ⟨Nat.le_of_ble_eq_true rfl, Nat.le_of_ble_eq_true rfl⟩) (wPreV hP hD hK [5, 6, 7, 8, 9, 10] rfl rfl (ci := 2) (qb := 5) rfl rfl rfl) rfl rfl hl.1 rfl (lv_room (Nat.le_of_ble_eq_true rfl)) dX4_best_68 ⟨Nat.le_of_ble_eq_true rfl, Nat.le_of_ble_eq_true rfl⟩) hP hD hS hA [5, 6, 7, 8, 9, 10] [0, 1, 2, 3, 4, 11, 12, 13, 14, 15] [0, 1, 2, 3, 4, 10, 11, 12, 13, 14, 15, 5, 6, 7, 8, 9] rfl rfl rfl (by decide) rfl rfl (fun H locs hP hD hS => ?_)
      refine lv_goto (tgt := 75) hx hb dX4_best_71 (by decide) ?_
      obtain rfl := Option.some.inj h
      exact wrxi (ty := .int) (t0 := u_1414) hx hb hr hlocks hP hD hS (Nat.le_of_ble_eq_true rfl) (Nat.le_of_ble_eq_true rfl) rfl rfl dX4_best_75
  rw [fX4_best.eq_1] at h
  refine lv_aload_n hx hb dX4_best_0 rfl (lv_at hl 0 rfl) ?_
  refine lv_iload_n hx hb dX4_best_1 rfl (lv_at hl 1 rfl) ?_
  obtain ⟨x_u_1416, hc_1417, hx_u_1416, h⟩ := bdx_inv h
  refine wafterx_v (wr := []) (vx_runV (As := [.int x1]) (rest := []) ⟨hx, hb, hml, hown, hts⟩ (kX4_checkRoom (l := l) hst (G := G) c0 l0 l1 l2 l3 m0 m1 m2 m3 m4 m5 r0 r1 r2 r3 g0 g_e l_a l_b l_c l_n m_x m_y m_d m_t m_v m_n r_s r_n r_w r_k x1 N x_u_1416 hc_1417 _) (cwV 1 hts gX4_best_X4_checkRoom rfl rfl rfl (by decide +kernel) ⟨Nat.le_of_ble_eq_true rfl, Nat.le_of_ble_eq_true rfl⟩) (wPreVX hP hD hK hS hA hT [0, 1, 2, 3, 4, 5, 6, 7, 8, 9, 10, 11, 12, 13, 14, 15] rfl rfl (ci := 4) (qb := 0) rfl rfl rfl) rfl rfl hl.1 rfl (lv_room (Nat.le_of_ble_eq_true rfl)) dX4_best_2 ⟨(Nat.le_of_ble_eq_true rfl), (Nat.le_of_ble_eq_true rfl)⟩) hP hD hS hA [0, 1, 2, 3, 4, 5, 6, 7, 8, 9, 10, 11, 12, 13, 14, 15] [] [0, 1, 2, 3, 4, 5, 6, 7, 8, 9, 10, 11, 12, 13, 14, 15] rfl rfl rfl (by decide) rfl rfl (fun E ce q9 H locs he hP hD hS hce hcv hcl => wpass_i hnoh hlocks hP hD hS hce hcv hcl (hx_u_1416 E he) (Nat.le_of_ble_eq_true rfl) (Nat.le_of_ble_eq_true rfl)) (fun u_1416 H locs hu hP hD hS => ?_)
  have h := h u_1416 hu
  have hP : va_P G.1 vwCl (w_C G c0 l0 l1 l2 l3 m0 m1 m2 m3 m4 m5 r0 r1 r2 r3 g0 g_e l_a l_b l_c l_n m_x m_y m_d m_t m_v m_n r_s r_n r_w r_k) H := hP.sub [0, 1, 2, 3, 4, 5, 6, 7, 8, 9, 10, 11, 12, 13, 14, 15] rfl
  have hD : va_D A (w_C G c0 l0 l1 l2 l3 m0 m1 m2 m3 m4 m5 r0 r1 r2 r3 g0 g_e l_a l_b l_c l_n m_x m_y m_d m_t m_v m_n r_s r_n r_w r_k) := hD.sub [0, 1, 2, 3, 4, 5, 6, 7, 8, 9, 10, 11, 12, 13, 14, 15] rfl rfl
  refine lv_iload_n hx hb dX4_best_5 rfl (lv_at hl 2 rfl) ?_
  obtain ⟨u_1418, hc_1419, h⟩ := bd_inv h
  refine wafter_i (wr := (w_C G c0 l0 l1 l2 l3 m0 m1 m2 m3 m4 m5 r0 r1 r2 r3 g0 g_e l_a l_b l_c l_n m_x m_y m_d m_t m_v m_n r_s r_n r_w r_k)) (w2 := (w_C G c0 l0 l1 l2 l3 m0 m1 m2 m3 m4 m5 r0 r1 r2 r3 g0 g_e l_a l_b l_c l_n m_x m_y m_d m_t m_v m_n r_s r_n r_w r_k)) (va_runS (As := [.int x2]) (rest := []) ⟨hx, hb, hml, hown, hts⟩ (kX4_isTooFar (l := l) (G := G)   x2 N u_1418 hc_1419 _) (va_cwS 1 hts gX4_best_X4_isTooFar rfl rfl rfl (by decide +kernel) ⟨Nat.le_of_ble_eq_true rfl, Nat.le_of_ble_eq_true rfl⟩) (wPreS hP hD hK [] rfl rfl) rfl rfl hl.1 rfl (lv_room (Nat.le_of_ble_eq_true rfl)) dX4_best_6 ⟨Nat.le_of_ble_eq_true rfl, Nat.le_of_ble_eq_true rfl⟩) hP hD hS hA [] [0, 1, 2, 3, 4, 5, 6, 7, 8, 9, 10, 11, 12, 13, 14, 15] [0, 1, 2, 3, 4, 5, 6, 7, 8, 9, 10, 11, 12, 13, 14, 15] rfl rfl rfl (by decide) rfl rfl (fun H locs hP hD hS => ?_)
  refine lv_if_ne (tgt := 27) hx hb dX4_best_9 (by decide) (fun c_1420 => ?_) (fun c_1420 => ?_)
  · have h := iq c_1420 h
    obtain rfl := Option.some.inj h
    exact wthrow_i (cls := xIAE) (text := "gx or gy is out of range, or both are 0") hx hb hst hown (by decide +kernel) lxIAE iniIAE hT (by decide +kernel) gwIAE xng_IAE xot_IAE hP hD hS (hl.1.trans hml.symm) dX4_best_27 dX4_best_30 dX4_best_31 dX4_best_33 dX4_best_36 hnoh hlocks (Nat.le_of_ble_eq_true rfl) (Nat.le_of_ble_eq_true rfl) (Nat.le_of_ble_eq_true rfl) (Nat.le_of_ble_eq_true rfl) (Nat.le_of_ble_eq_true rfl) (Nat.le_of_ble_eq_true rfl) rfl
  · have h := ip c_1420 h
    refine lv_iload_n hx hb dX4_best_12 rfl (lv_at hl 3 rfl) ?_
    obtain ⟨u_1421, hc_1422, h⟩ := bd_inv h
    refine wafter_i (wr := (w_C G c0 l0 l1 l2 l3 m0 m1 m2 m3 m4 m5 r0 r1 r2 r3 g0 g_e l_a l_b l_c l_n m_x m_y m_d m_t m_v m_n r_s r_n r_w r_k)) (w2 := (w_C G c0 l0 l1 l2 l3 m0 m1 m2 m3 m4 m5 r0 r1 r2 r3 g0 g_e l_a l_b l_c l_n m_x m_y m_d m_t m_v m_n r_s r_n r_w r_k)) (va_runS (As := [.int x3]) (rest := []) ⟨hx, hb, hml, hown, hts⟩ (kX4_isTooFar (l := l) (G := G)   x3 N u_1421 hc_1422 _) (va_cwS 1 hts gX4_best_X4_isTooFar rfl rfl rfl (by decide +kernel) ⟨Nat.le_of_ble_eq_true rfl, Nat.le_of_ble_eq_true rfl⟩) (wPreS hP hD hK [] rfl rfl) rfl rfl hl.1 rfl (lv_room (Nat.le_of_ble_eq_true rfl)) dX4_best_13 ⟨Nat.le_of_ble_eq_true rfl, Nat.le_of_ble_eq_true rfl⟩) hP hD hS hA [] [0, 1, 2, 3, 4, 5, 6, 7, 8, 9, 10, 11, 12, 13, 14, 15] [0, 1, 2, 3, 4, 5, 6, 7, 8, 9, 10, 11, 12, 13, 14, 15] rfl rfl rfl (by decide) rfl rfl (fun H locs hP hD hS => ?_)
    refine lv_if_ne (tgt := 27) hx hb dX4_best_16 (by decide) (fun c_1423 => ?_) (fun c_1423 => ?_)
    · have h := iq c_1423 h
      obtain rfl := Option.some.inj h
      exact wthrow_i (cls := xIAE) (text := "gx or gy is out of range, or both are 0") hx hb hst hown (by decide +kernel) lxIAE iniIAE hT (by decide +kernel) gwIAE xng_IAE xot_IAE hP hD hS (hl.1.trans hml.symm) dX4_best_27 dX4_best_30 dX4_best_31 dX4_best_33 dX4_best_36 hnoh hlocks (Nat.le_of_ble_eq_true rfl) (Nat.le_of_ble_eq_true rfl) (Nat.le_of_ble_eq_true rfl) (Nat.le_of_ble_eq_true rfl) (Nat.le_of_ble_eq_true rfl) (Nat.le_of_ble_eq_true rfl) rfl
    · have h := ip c_1423 h
      refine lv_iload_n hx hb dX4_best_19 rfl (lv_at hl 2 rfl) ?_
      refine lv_if_ne (tgt := 37) hx hb dX4_best_20 (by decide) (fun c_1424 => ?_) (fun c_1424 => ?_)
      · have h := iq c_1424 h
        refine W.widen (k := 3) (n := 18) (Nat.le_of_ble_eq_true rfl) (Nat.le_of_ble_eq_true rfl) ?_
        exact w_37  _ _ _   _ _ _  hP hD hS (lv_sub hl [0, 1, 2, 3] rfl) h
      · have h := ip c_1424 h
        refine lv_iload_n hx hb dX4_best_23 rfl (lv_at hl 3 rfl) ?_
        refine lv_if_ne (tgt := 37) hx hb dX4_best_24 (by decide) (fun c_1425 => ?_) (fun c_1425 => ?_)
        · have h := iq c_1425 h
          refine W.widen (k := 3) (n := 18) (Nat.le_of_ble_eq_true rfl) (Nat.le_of_ble_eq_true rfl) ?_
          exact w_37  _ _ _   _ _ _  hP hD hS (lv_sub hl [0, 1, 2, 3] rfl) h
        · have h := ip c_1425 h
          obtain rfl := Option.some.inj h
          exact wthrow_i (cls := xIAE) (text := "gx or gy is out of range, or both are 0") hx hb hst hown (by decide +kernel) lxIAE iniIAE hT (by decide +kernel) gwIAE xng_IAE xot_IAE hP hD hS (hl.1.trans hml.symm) dX4_best_27 dX4_best_30 dX4_best_31 dX4_best_33 dX4_best_36 hnoh hlocks (Nat.le_of_ble_eq_true rfl) (Nat.le_of_ble_eq_true rfl) (Nat.le_of_ble_eq_true rfl) (Nat.le_of_ble_eq_true rfl) (Nat.le_of_ble_eq_true rfl) (Nat.le_of_ble_eq_true rfl) rfl
def fX4_reflected (N : Nat) (l_a : Nat → Int32) (l_b : Nat → Int32) (l_c : Nat → Int32) (l_n : Int32) (x1 : Int32) (x2 : Int32) : Option (String ⊕ (Int32)) := bdx (fX4_checkLine N l_n x1) (fun u_1426 => bdx (fX4_checkLine N l_n x2) (fun u_1428 => bd (fX1_mirrored N l_a l_b l_c l_n x1 x2) (fun u_1430 => some (.inr u_1430))))
set_option maxHeartbeats 4000000 in
set_option maxRecDepth 100000 in
theorem kX4_reflected {l : Launch} (hst : l.stackTraces = false) {G : wG} (c0 l0 l1 l2 l3 m0 m1 m2 m3 m4 m5 r0 r1 r2 r3 g0 : Nat) (g_e : Int64) (l_a : Nat → Int32) (l_b : Nat → Int32) (l_c : Nat → Int32) (l_n : Int32) (m_x : Nat → Int32) (m_y : Nat → Int32) (m_d : Nat → Int32) (m_t : Nat → Int32) (m_v : Nat → Int32) (m_n : Int32) (r_s : Nat → Int32) (r_n : Nat → Int32) (r_w : Nat → Int32) (r_k : Int32) (x1 : Int32) (x2 : Int32) (N : Nat) (v : String ⊕ (Int32)) (h : fX4_reflected N l_a l_b l_c l_n x1 x2 = some v) : wXi l G yX4_reflected wsX4_reflected ({ frames := 7, cells := 4, slots := 24, locals := 121 } : Room) [.ref c0, .int x1, .int x2] (w_C G c0 l0 l1 l2 l3 m0 m1 m2 m3 m4 m5 r0 r1 r2 r3 g0 g_e l_a l_b l_c l_n m_x m_y m_d m_t m_v m_n r_s r_n r_w r_k) v (fun t : Int32 => (w_C G c0 l0 l1 l2 l3 m0 m1 m2 m3 m4 m5 r0 r1 r2 r3 g0 g_e l_a l_b l_c l_n m_x m_y m_d m_t m_v m_n r_s r_n r_w r_k)) (fun t : Int32 => t) 4 24 := by
  refine wXi.mk (cc := cX4_reflected) (maxL := 3) (ty := .int) (by decide) rfl (Nat.le_of_ble_eq_true rfl) ?_
  intro p e s m below meth c A ls hx hb hml hr hlocks hts hown hK hA hP hD hT hnoh hl
  have hx : p.tables.exec = Jvm.exec := hx
  have hown : s.vm.findClass RX4 = some m.cls := hown
  have hinX4 : ∀ w ∈ wsX40, w ∈ wsX4_reflected := by decide +kernel
  have lk10 := hts (.fieldLink RX4 10 "Chamberwright" "lines" "LChamberwright$Lines;") (by decide +kernel)
  have hS : va_S A s.heap s.heap [] := va_S.rf
  have hP : va_P G.1 vwCl (w_C G c0 l0 l1 l2 l3 m0 m1 m2 m3 m4 m5 r0 r1 r2 r3 g0 g_e l_a l_b l_c l_n m_x m_y m_d m_t m_v m_n r_s r_n r_w r_k) s.heap := hP
  have hD : va_D A (w_C G c0 l0 l1 l2 l3 m0 m1 m2 m3 m4 m5 r0 r1 r2 r3 g0 g_e l_a l_b l_c l_n m_x m_y m_d m_t m_v m_n r_s r_n r_w r_k) := hD
  have hl : lv_has ls 3 [(0, .ref c0), (1, .int x1), (2, .int x2)] := hl
  obtain ⟨args, hargs⟩ : ∃ z : Array Value, z = ([.ref c0, .int x1, .int x2] : List Value).toArray := ⟨_, rfl⟩
  rw [← hargs]
  rw [← hargs] at hts
  rw [fX4_reflected.eq_1] at h
  refine lv_aload_n hx hb dX4_reflected_0 rfl (lv_at hl 0 rfl) ?_
  refine lv_iload_n hx hb dX4_reflected_1 rfl (lv_at hl 1 rfl) ?_
  obtain ⟨x_u_1426, hc_1427, hx_u_1426, h⟩ := bdx_inv h
  refine wafterx_v (wr := []) (vx_runV (As := [.int x1]) (rest := []) ⟨hx, hb, hml, hown, hts⟩ (kX4_checkLine (l := l) hst (G := G) c0 l0 l1 l2 l3 m0 m1 m2 m3 m4 m5 r0 r1 r2 r3 g0 g_e l_a l_b l_c l_n m_x m_y m_d m_t m_v m_n r_s r_n r_w r_k x1 N x_u_1426 hc_1427 _) (cwV 1 hts gX4_reflected_X4_checkLine rfl rfl rfl (by decide +kernel) ⟨Nat.le_of_ble_eq_true rfl, Nat.le_of_ble_eq_true rfl⟩) (wPreVX hP hD hK hS hA hT [0, 1, 2, 3, 4, 5, 6, 7, 8, 9, 10, 11, 12, 13, 14, 15] rfl rfl (ci := 4) (qb := 0) rfl rfl rfl) rfl rfl hl.1 rfl (lv_room (Nat.le_of_ble_eq_true rfl)) dX4_reflected_2 ⟨(Nat.le_of_ble_eq_true rfl), (Nat.le_of_ble_eq_true rfl)⟩) hP hD hS hA [0, 1, 2, 3, 4, 5, 6, 7, 8, 9, 10, 11, 12, 13, 14, 15] [] [0, 1, 2, 3, 4, 5, 6, 7, 8, 9, 10, 11, 12, 13, 14, 15] rfl rfl rfl (by decide) rfl rfl (fun E ce q9 H locs he hP hD hS hce hcv hcl => wpass_i hnoh hlocks hP hD hS hce hcv hcl (hx_u_1426 E he) (Nat.le_of_ble_eq_true rfl) (Nat.le_of_ble_eq_true rfl)) (fun u_1426 H locs hu hP hD hS => ?_)
  have h := h u_1426 hu
  have hP : va_P G.1 vwCl (w_C G c0 l0 l1 l2 l3 m0 m1 m2 m3 m4 m5 r0 r1 r2 r3 g0 g_e l_a l_b l_c l_n m_x m_y m_d m_t m_v m_n r_s r_n r_w r_k) H := hP.sub [0, 1, 2, 3, 4, 5, 6, 7, 8, 9, 10, 11, 12, 13, 14, 15] rfl
  have hD : va_D A (w_C G c0 l0 l1 l2 l3 m0 m1 m2 m3 m4 m5 r0 r1 r2 r3 g0 g_e l_a l_b l_c l_n m_x m_y m_d m_t m_v m_n r_s r_n r_w r_k) := hD.sub [0, 1, 2, 3, 4, 5, 6, 7, 8, 9, 10, 11, 12, 13, 14, 15] rfl rfl
  refine lv_aload_n hx hb dX4_reflected_5 rfl (lv_at hl 0 rfl) ?_
  refine lv_iload_n hx hb dX4_reflected_6 rfl (lv_at hl 2 rfl) ?_
  obtain ⟨x_u_1428, hc_1429, hx_u_1428, h⟩ := bdx_inv h
  refine wafterx_v (wr := []) (vx_runV (As := [.int x2]) (rest := []) ⟨hx, hb, hml, hown, hts⟩ (kX4_checkLine (l := l) hst (G := G) c0 l0 l1 l2 l3 m0 m1 m2 m3 m4 m5 r0 r1 r2 r3 g0 g_e l_a l_b l_c l_n m_x m_y m_d m_t m_v m_n r_s r_n r_w r_k x2 N x_u_1428 hc_1429 _) (cwV 1 hts gX4_reflected_X4_checkLine rfl rfl rfl (by decide +kernel) ⟨Nat.le_of_ble_eq_true rfl, Nat.le_of_ble_eq_true rfl⟩) (wPreVX hP hD hK hS hA hT [0, 1, 2, 3, 4, 5, 6, 7, 8, 9, 10, 11, 12, 13, 14, 15] rfl rfl (ci := 4) (qb := 0) rfl rfl rfl) rfl rfl hl.1 rfl (lv_room (Nat.le_of_ble_eq_true rfl)) dX4_reflected_7 ⟨(Nat.le_of_ble_eq_true rfl), (Nat.le_of_ble_eq_true rfl)⟩) hP hD hS hA [0, 1, 2, 3, 4, 5, 6, 7, 8, 9, 10, 11, 12, 13, 14, 15] [] [0, 1, 2, 3, 4, 5, 6, 7, 8, 9, 10, 11, 12, 13, 14, 15] rfl rfl rfl (by decide) rfl rfl (fun E ce q9 H locs he hP hD hS hce hcv hcl => wpass_i hnoh hlocks hP hD hS hce hcv hcl (hx_u_1428 E he) (Nat.le_of_ble_eq_true rfl) (Nat.le_of_ble_eq_true rfl)) (fun u_1428 H locs hu hP hD hS => ?_)
  have h := h u_1428 hu
  have hP : va_P G.1 vwCl (w_C G c0 l0 l1 l2 l3 m0 m1 m2 m3 m4 m5 r0 r1 r2 r3 g0 g_e l_a l_b l_c l_n m_x m_y m_d m_t m_v m_n r_s r_n r_w r_k) H := hP.sub [0, 1, 2, 3, 4, 5, 6, 7, 8, 9, 10, 11, 12, 13, 14, 15] rfl
  have hD : va_D A (w_C G c0 l0 l1 l2 l3 m0 m1 m2 m3 m4 m5 r0 r1 r2 r3 g0 g_e l_a l_b l_c l_n m_x m_y m_d m_t m_v m_n r_s r_n r_w r_k) := hD.sub [0, 1, 2, 3, 4, 5, 6, 7, 8, 9, 10, 11, 12, 13, 14, 15] rfl rfl
  refine lv_aload_n hx hb dX4_reflected_10 rfl (lv_at hl 0 rfl) ?_
  refine va_get (D := G.1) (ci := 4) (v := .ref l0) (C := RX4) (T := TX4) (N := 4) hx hb hts hinX4 hown hK.1 hP 0 rfl rfl 0 (by decide) lk10 (fun _ h9 => h9) rfl dX4_reflected_11 ?_
  refine lv_iload_n hx hb dX4_reflected_14 rfl (lv_at hl 1 rfl) ?_
  refine lv_iload_n hx hb dX4_reflected_15 rfl (lv_at hl 2 rfl) ?_
  obtain ⟨u_1430, hc_1431, h⟩ := bd_inv h
  refine wafter_i (wr := [(c0, .inr (4, [.ref l0, .ref m0, .ref r0, .ref g0])), (m0, .inr (2, [.ref m1, .ref m2, .ref m3, .ref m4, .ref m5, .int m_n])), (m1, .inl (G.2.1, 36, .inl m_x)), (m2, .inl (G.2.1, 36, .inl m_y)), (m3, .inl (G.2.1, 36, .inl m_d)), (m4, .inl (G.2.1, 36, .inl m_t)), (m5, .inl (G.2.1, 36, .inl m_v)), (r0, .inr (3, [.ref r1, .ref r2, .ref r3, .int r_k])), (r1, .inl (G.2.1, 46, .inl r_s)), (r2, .inl (G.2.1, 512, .inl r_n)), (r3, .inl (G.2.1, 512, .inl r_w)), (g0, .inr (0, [.long g_e]))]) (w2 := (w_C G c0 l0 l1 l2 l3 m0 m1 m2 m3 m4 m5 r0 r1 r2 r3 g0 g_e l_a l_b l_c l_n m_x m_y m_d m_t m_v m_n r_s r_n r_w r_k)) (va_runV (As := [.int x1, .int x2]) (rest := []) ⟨hx, hb, hml, hown, hts⟩ (kX1_mirrored (l := l) (G := G) l0 l1 l2 l3 l_a l_b l_c l_n x1 x2 N u_1430 hc_1431 _) (cwV 2 hts gX4_reflected_X1_mirrored rfl rfl rfl (by decide +kernel) ⟨Nat.le_of_ble_eq_true rfl, Nat.le_of_ble_eq_true rfl⟩) (wPreV hP hD hK [1, 2, 3, 4] rfl rfl (ci := 1) (qb := 1) rfl rfl rfl) rfl rfl hl.1 rfl (lv_room (Nat.le_of_ble_eq_true rfl)) dX4_reflected_16 ⟨Nat.le_of_ble_eq_true rfl, Nat.le_of_ble_eq_true rfl⟩) hP hD hS hA [1, 2, 3, 4] [0, 5, 6, 7, 8, 9, 10, 11, 12, 13, 14, 15] [0, 12, 13, 14, 15, 1, 2, 3, 4, 5, 6, 7, 8, 9, 10, 11] rfl rfl rfl (by decide) rfl rfl (fun H locs hP hD hS => ?_)
  obtain rfl := Option.some.inj h
  exact wrxi (ty := .int) (t0 := u_1430) hx hb hr hlocks hP hD hS (Nat.le_of_ble_eq_true rfl) (Nat.le_of_ble_eq_true rfl) rfl rfl dX4_reflected_19
def fX4_isKaleidoscope_b15 (N : Nat) (l_a : Nat → Int32) (l_b : Nat → Int32) (l_c : Nat → Int32) (l_n : Int32) (x1 : Int32) (k_47 : Option (Int32)) : Nat → Int32 → Option (Int32)
  | 0, _ => none
  | n + 1, x2 => bd (fX1_count N l_n) (fun u_1432 => if u_1432 ≤ x2 then k_47 else bd (fX1_mirrored N l_a l_b l_c l_n x1 x2) (fun u_1435 => if u_1435 = (-1) then zo 0 (some 0) else fX4_isKaleidoscope_b15 N l_a l_b l_c l_n x1 k_47 n (x2 + 1)))
def fX4_isKaleidoscope_b2 (N : Nat) (l_a : Nat → Int32) (l_b : Nat → Int32) (l_c : Nat → Int32) (l_n : Int32) : Nat → Int32 → Option (Int32)
  | 0, _ => none
  | n + 1, x1 => bd (fX1_count N l_n) (fun u_1438 => if u_1438 ≤ x1 then zo 1 (some 1) else fX4_isKaleidoscope_b15 N l_a l_b l_c l_n x1 (fX4_isKaleidoscope_b2 N l_a l_b l_c l_n n (x1 + 1)) N 0)
def fX4_isKaleidoscope (N : Nat) (l_a : Nat → Int32) (l_b : Nat → Int32) (l_c : Nat → Int32) (l_n : Int32) : Option (Int32) := fX4_isKaleidoscope_b2 N l_a l_b l_c l_n N 0
set_option maxHeartbeats 4000000 in
set_option maxRecDepth 100000 in
theorem kX4_isKaleidoscope {l : Launch} {G : wG} (c0 l0 l1 l2 l3 m0 m1 m2 m3 m4 m5 r0 r1 r2 r3 g0 : Nat) (g_e : Int64) (l_a : Nat → Int32) (l_b : Nat → Int32) (l_c : Nat → Int32) (l_n : Int32) (m_x : Nat → Int32) (m_y : Nat → Int32) (m_d : Nat → Int32) (m_t : Nat → Int32) (m_v : Nat → Int32) (m_n : Int32) (r_s : Nat → Int32) (r_n : Nat → Int32) (r_w : Nat → Int32) (r_k : Int32) (N : Nat) (v : Int32) (h : fX4_isKaleidoscope N l_a l_b l_c l_n = some v) : wCi l G yX4_isKaleidoscope wsX4_isKaleidoscope ({ frames := 2, cells := 0, slots := 0, locals := 48 } : Room) [.ref c0] (w_C G c0 l0 l1 l2 l3 m0 m1 m2 m3 m4 m5 r0 r1 r2 r3 g0 g_e l_a l_b l_c l_n m_x m_y m_d m_t m_v m_n r_s r_n r_w r_k) (w_C G c0 l0 l1 l2 l3 m0 m1 m2 m3 m4 m5 r0 r1 r2 r3 g0 g_e l_a l_b l_c l_n m_x m_y m_d m_t m_v m_n r_s r_n r_w r_k) 0 0 v := by
  refine wCi.mk (cc := cX4_isKaleidoscope) (maxL := 3) (ty := .boolean) (by decide) rfl (Nat.le_of_ble_eq_true rfl) ?_
  intro p e s m below meth c A ls hx hb hml hr hlocks hts hown hK hA hP hD hl
  have hx : p.tables.exec = Jvm.exec := hx
  have hown : s.vm.findClass RX4 = some m.cls := hown
  have hinX4 : ∀ w ∈ wsX40, w ∈ wsX4_isKaleidoscope := by decide +kernel
  have lk10 := hts (.fieldLink RX4 10 "Chamberwright" "lines" "LChamberwright$Lines;") (by decide +kernel)
  have hS : va_S A s.heap s.heap [] := va_S.rf
  have hP : va_P G.1 vwCl (w_C G c0 l0 l1 l2 l3 m0 m1 m2 m3 m4 m5 r0 r1 r2 r3 g0 g_e l_a l_b l_c l_n m_x m_y m_d m_t m_v m_n r_s r_n r_w r_k) s.heap := hP
  have hD : va_D A (w_C G c0 l0 l1 l2 l3 m0 m1 m2 m3 m4 m5 r0 r1 r2 r3 g0 g_e l_a l_b l_c l_n m_x m_y m_d m_t m_v m_n r_s r_n r_w r_k) := hD
  have hl : lv_has ls 3 [(0, .ref c0)] := hl
  obtain ⟨args, hargs⟩ : ∃ z : Array Value, z = ([.ref c0] : List Value).toArray := ⟨_, rfl⟩
  rw [← hargs]
  rw [← hargs] at hts
  have w_15 : ∀ (k_47 : Option (Int32)) (x1 : Int32)  (_z : Unit), (∀  (H : Heap) (locs : List Loc) (ls : Array Slot), va_P G.1 vwCl (w_C G c0 l0 l1 l2 l3 m0 m1 m2 m3 m4 m5 r0 r1 r2 r3 g0 g_e l_a l_b l_c l_n m_x m_y m_d m_t m_v m_n r_s r_n r_w r_k) H → va_D A (w_C G c0 l0 l1 l2 l3 m0 m1 m2 m3 m4 m5 r0 r1 r2 r3 g0 g_e l_a l_b l_c l_n m_x m_y m_d m_t m_v m_n r_s r_n r_w r_k) → va_S A s.heap H locs → lv_has ls 3 [(0, .ref c0), (1, .int x1)] → k_47 = some v → W p l e ({ frames := 2, cells := 0, slots := 0, locals := 48 } : Room) s m args below meth c H locs 0 0 (wQi G A below args s (w_C G c0 l0 l1 l2 l3 m0 m1 m2 m3 m4 m5 r0 r1 r2 r3 g0 g_e l_a l_b l_c l_n m_x m_y m_d m_t m_v m_n r_s r_n r_w r_k) 0 0 v) (F0 m 47 ls [])) → ∀ (n : Nat) (x2 : Int32)  (H : Heap) (locs : List Loc) (ls : Array Slot), va_P G.1 vwCl (w_C G c0 l0 l1 l2 l3 m0 m1 m2 m3 m4 m5 r0 r1 r2 r3 g0 g_e l_a l_b l_c l_n m_x m_y m_d m_t m_v m_n r_s r_n r_w r_k) H → va_D A (w_C G c0 l0 l1 l2 l3 m0 m1 m2 m3 m4 m5 r0 r1 r2 r3 g0 g_e l_a l_b l_c l_n m_x m_y m_d m_t m_v m_n r_s r_n r_w r_k) → va_S A s.heap H locs → lv_has ls 3 [(0, .ref c0), (1, .int x1), (2, .int x2)] → fX4_isKaleidoscope_b15 N l_a l_b l_c l_n x1 k_47 n x2 = some v → W p l e ({ frames := 2, cells := 0, slots := 0, locals := 48 } : Room) s m args below meth c H locs 0 0 (wQi G A below args s (w_C G c0 l0 l1 l2 l3 m0 m1 m2 m3 m4 m5 r0 r1 r2 r3 g0 g_e l_a l_b l_c l_n m_x m_y m_d m_t m_v m_n r_s r_n r_w r_k) 0 0 v) (F0 m 15 ls []) := by
    intro k_47 x1 _z hk_47 n
    induction n with
    | zero =>
      intro x2 H locs ls hP hD hS hl h
      rw [fX4_isKaleidoscope_b15.eq_1] at h
      cases h
    | succ n ih =>
      intro x2 H locs ls hP hD hS hl h
      rw [fX4_isKaleidoscope_b15.eq_2] at h
      refine lv_iload_n hx hb dX4_isKaleidoscope_15 rfl (lv_at hl 2 rfl) ?_
      refine lv_aload_n hx hb dX4_isKaleidoscope_16 rfl (lv_at hl 0 rfl) ?_
      refine va_get (D := G.1) (ci := 4) (v := .ref l0) (C := RX4) (T := TX4) (N := 4) hx hb hts hinX4 hown hK.1 hP 0 rfl rfl 0 (by decide) lk10 (fun _ h9 => h9) rfl dX4_isKaleidoscope_17 ?_
      obtain ⟨u_1432, hc_1433, h⟩ := bd_inv h
      refine wafter_i (wr := [(c0, .inr (4, [.ref l0, .ref m0, .ref r0, .ref g0])), (m0, .inr (2, [.ref m1, .ref m2, .ref m3, .ref m4, .ref m5, .int m_n])), (m1, .inl (G.2.1, 36, .inl m_x)), (m2, .inl (G.2.1, 36, .inl m_y)), (m3, .inl (G.2.1, 36, .inl m_d)), (m4, .inl (G.2.1, 36, .inl m_t)), (m5, .inl (G.2.1, 36, .inl m_v)), (r0, .inr (3, [.ref r1, .ref r2, .ref r3, .int r_k])), (r1, .inl (G.2.1, 46, .inl r_s)), (r2, .inl (G.2.1, 512, .inl r_n)), (r3, .inl (G.2.1, 512, .inl r_w)), (g0, .inr (0, [.long g_e]))]) (w2 := (w_C G c0 l0 l1 l2 l3 m0 m1 m2 m3 m4 m5 r0 r1 r2 r3 g0 g_e l_a l_b l_c l_n m_x m_y m_d m_t m_v m_n r_s r_n r_w r_k)) (va_runV (As := []) (rest := [.int x2]) ⟨hx, hb, hml, hown, hts⟩ (kX1_count (l := l) (G := G) l0 l1 l2 l3 l_a l_b l_c l_n  N u_1432 hc_1433 _) (cwV 0 hts gX4_isKaleidoscope_X1_count rfl rfl rfl (by decide +kernel) ⟨Nat.le_of_ble_eq_true rfl, Nat.le_of_ble_eq_true rfl⟩) (wPreV hP hD hK [1, 2, 3, 4] rfl rfl (ci := 1) (qb := 1) rfl rfl rfl) rfl rfl hl.1 rfl (lv_room (Nat.le_of_ble_eq_true rfl)) dX4_isKaleidoscope_20 ⟨Nat.zero_le _, Nat.zero_le _⟩) hP hD hS hA [1, 2, 3, 4] [0, 5, 6, 7, 8, 9, 10, 11, 12, 13, 14, 15] [0, 12, 13, 14, 15, 1, 2, 3, 4, 5, 6, 7, 8, 9, 10, 11] rfl rfl rfl (by decide) rfl rfl (fun H locs hP hD hS => ?_)
      refine lv_icmp_ge (tgt := 47) hx hb dX4_isKaleidoscope_23 (by decide) (fun c_1434 => ?_) (fun c_1434 => ?_)
      · have h := ip c_1434 h
        exact hk_47  _ _ _ hP hD hS (lv_sub hl [0, 1] rfl) h
      · have h := iq c_1434 h
        refine lv_aload_n hx hb dX4_isKaleidoscope_26 rfl (lv_at hl 0 rfl) ?_
        refine va_get (D := G.1) (ci := 4) (v := .ref l0) (C := RX4) (T := TX4) (N := 4) hx hb hts hinX4 hown hK.1 hP 0 rfl rfl 0 (by decide) lk10 (fun _ h9 => h9) rfl dX4_isKaleidoscope_27 ?_
        refine lv_iload_n hx hb dX4_isKaleidoscope_30 rfl (lv_at hl 1 rfl) ?_
        refine lv_iload_n hx hb dX4_isKaleidoscope_31 rfl (lv_at hl 2 rfl) ?_
        obtain ⟨u_1435, hc_1436, h⟩ := bd_inv h
        refine wafter_i (wr := [(c0, .inr (4, [.ref l0, .ref m0, .ref r0, .ref g0])), (m0, .inr (2, [.ref m1, .ref m2, .ref m3, .ref m4, .ref m5, .int m_n])), (m1, .inl (G.2.1, 36, .inl m_x)), (m2, .inl (G.2.1, 36, .inl m_y)), (m3, .inl (G.2.1, 36, .inl m_d)), (m4, .inl (G.2.1, 36, .inl m_t)), (m5, .inl (G.2.1, 36, .inl m_v)), (r0, .inr (3, [.ref r1, .ref r2, .ref r3, .int r_k])), (r1, .inl (G.2.1, 46, .inl r_s)), (r2, .inl (G.2.1, 512, .inl r_n)), (r3, .inl (G.2.1, 512, .inl r_w)), (g0, .inr (0, [.long g_e]))]) (w2 := (w_C G c0 l0 l1 l2 l3 m0 m1 m2 m3 m4 m5 r0 r1 r2 r3 g0 g_e l_a l_b l_c l_n m_x m_y m_d m_t m_v m_n r_s r_n r_w r_k)) (va_runV (As := [.int x1, .int x2]) (rest := []) ⟨hx, hb, hml, hown, hts⟩ (kX1_mirrored (l := l) (G := G) l0 l1 l2 l3 l_a l_b l_c l_n x1 x2 N u_1435 hc_1436 _) (cwV 2 hts gX4_isKaleidoscope_X1_mirrored rfl rfl rfl (by decide +kernel) ⟨Nat.le_of_ble_eq_true rfl, Nat.le_of_ble_eq_true rfl⟩) (wPreV hP hD hK [1, 2, 3, 4] rfl rfl (ci := 1) (qb := 1) rfl rfl rfl) rfl rfl hl.1 rfl (lv_room (Nat.le_of_ble_eq_true rfl)) dX4_isKaleidoscope_32 ⟨Nat.zero_le _, Nat.zero_le _⟩) hP hD hS hA [1, 2, 3, 4] [0, 5, 6, 7, 8, 9, 10, 11, 12, 13, 14, 15] [0, 12, 13, 14, 15, 1, 2, 3, 4, 5, 6, 7, 8, 9, 10, 11] rfl rfl rfl (by decide) rfl rfl (fun H locs hP hD hS => ?_)
        refine lv_iconst (v := (-1)) hx hb dX4_isKaleidoscope_35 (by decide) ?_
        refine lv_icmp_ne (tgt := 41) hx hb dX4_isKaleidoscope_36 (by decide) (fun c_1437 => ?_) (fun c_1437 => ?_)
        · have h := iq c_1437 h
          refine lv_iinc (v := (x2 + 1)) (lv' := [(2, .int (x2 + 1)), (0, .ref c0), (1, .int x1)]) hx hb dX4_isKaleidoscope_41 hl (k := 2) rfl rfl (by decide) rfl (fun ls hl => ?_)
          refine lv_goto (tgt := 15) hx hb dX4_isKaleidoscope_44 (by decide) ?_
          exact ih _ _ _ _ hP hD hS (lv_sub hl [1, 2, 0] rfl) h
        · have h := ip c_1437 h
          refine lv_iconst (v := 0) hx hb dX4_isKaleidoscope_39 (by decide) ?_
          obtain ⟨hz, h⟩ := zo_inv h
          obtain rfl := Option.some.inj h
          exact wrz hx hb hr hlocks hP hD hS (Nat.le_of_ble_eq_true rfl) (Nat.le_of_ble_eq_true rfl) hz rfl dX4_isKaleidoscope_40
  have w_2 : ∀   (_z : Unit), ∀ (n : Nat) (x1 : Int32)  (H : Heap) (locs : List Loc) (ls : Array Slot), va_P G.1 vwCl (w_C G c0 l0 l1 l2 l3 m0 m1 m2 m3 m4 m5 r0 r1 r2 r3 g0 g_e l_a l_b l_c l_n m_x m_y m_d m_t m_v m_n r_s r_n r_w r_k) H → va_D A (w_C G c0 l0 l1 l2 l3 m0 m1 m2 m3 m4 m5 r0 r1 r2 r3 g0 g_e l_a l_b l_c l_n m_x m_y m_d m_t m_v m_n r_s r_n r_w r_k) → va_S A s.heap H locs → lv_has ls 3 [(0, .ref c0), (1, .int x1)] → fX4_isKaleidoscope_b2 N l_a l_b l_c l_n n x1 = some v → W p l e ({ frames := 2, cells := 0, slots := 0, locals := 48 } : Room) s m args below meth c H locs 0 0 (wQi G A below args s (w_C G c0 l0 l1 l2 l3 m0 m1 m2 m3 m4 m5 r0 r1 r2 r3 g0 g_e l_a l_b l_c l_n m_x m_y m_d m_t m_v m_n r_s r_n r_w r_k) 0 0 v) (F0 m 2 ls []) := by
    intro _z n
    induction n with
    | zero =>
      intro x1 H locs ls hP hD hS hl h
      rw [fX4_isKaleidoscope_b2.eq_1] at h
      cases h
    | succ n ih =>
      intro x1 H locs ls hP hD hS hl h
      rw [fX4_isKaleidoscope_b2.eq_2] at h
      refine lv_iload_n hx hb dX4_isKaleidoscope_2 rfl (lv_at hl 1 rfl) ?_
      refine lv_aload_n hx hb dX4_isKaleidoscope_3 rfl (lv_at hl 0 rfl) ?_
      refine va_get (D := G.1) (ci := 4) (v := .ref l0) (C := RX4) (T := TX4) (N := 4) hx hb hts hinX4 hown hK.1 hP 0 rfl rfl 0 (by decide) lk10 (fun _ h9 => h9) rfl dX4_isKaleidoscope_4 ?_
      obtain ⟨u_1438, hc_1439, h⟩ := bd_inv h
      refine wafter_i (wr := [(c0, .inr (4, [.ref l0, .ref m0, .ref r0, .ref g0])), (m0, .inr (2, [.ref m1, .ref m2, .ref m3, .ref m4, .ref m5, .int m_n])), (m1, .inl (G.2.1, 36, .inl m_x)), (m2, .inl (G.2.1, 36, .inl m_y)), (m3, .inl (G.2.1, 36, .inl m_d)), (m4, .inl (G.2.1, 36, .inl m_t)), (m5, .inl (G.2.1, 36, .inl m_v)), (r0, .inr (3, [.ref r1, .ref r2, .ref r3, .int r_k])), (r1, .inl (G.2.1, 46, .inl r_s)), (r2, .inl (G.2.1, 512, .inl r_n)), (r3, .inl (G.2.1, 512, .inl r_w)), (g0, .inr (0, [.long g_e]))]) (w2 := (w_C G c0 l0 l1 l2 l3 m0 m1 m2 m3 m4 m5 r0 r1 r2 r3 g0 g_e l_a l_b l_c l_n m_x m_y m_d m_t m_v m_n r_s r_n r_w r_k)) (va_runV (As := []) (rest := [.int x1]) ⟨hx, hb, hml, hown, hts⟩ (kX1_count (l := l) (G := G) l0 l1 l2 l3 l_a l_b l_c l_n  N u_1438 hc_1439 _) (cwV 0 hts gX4_isKaleidoscope_X1_count rfl rfl rfl (by decide +kernel) ⟨Nat.le_of_ble_eq_true rfl, Nat.le_of_ble_eq_true rfl⟩) (wPreV hP hD hK [1, 2, 3, 4] rfl rfl (ci := 1) (qb := 1) rfl rfl rfl) rfl rfl hl.1 rfl (lv_room (Nat.le_of_ble_eq_true rfl)) dX4_isKaleidoscope_7 ⟨Nat.zero_le _, Nat.zero_le _⟩) hP hD hS hA [1, 2, 3, 4] [0, 5, 6, 7, 8, 9, 10, 11, 12, 13, 14, 15] [0, 12, 13, 14, 15, 1, 2, 3, 4, 5, 6, 7, 8, 9, 10, 11] rfl rfl rfl (by decide) rfl rfl (fun H locs hP hD hS => ?_)
      refine lv_icmp_ge (tgt := 53) hx hb dX4_isKaleidoscope_10 (by decide) (fun c_1440 => ?_) (fun c_1440 => ?_)
      · have h := ip c_1440 h
        refine lv_iconst (v := 1) hx hb dX4_isKaleidoscope_53 (by decide) ?_
        obtain ⟨hz, h⟩ := zo_inv h
        obtain rfl := Option.some.inj h
        exact wrz hx hb hr hlocks hP hD hS (Nat.le_of_ble_eq_true rfl) (Nat.le_of_ble_eq_true rfl) hz rfl dX4_isKaleidoscope_54
      · have h := iq c_1440 h
        refine lv_iconst (v := 0) hx hb dX4_isKaleidoscope_13 (by decide) ?_
        refine lv_istore_n (lv' := [(2, .int 0), (0, .ref c0), (1, .int x1)]) hx hb dX4_isKaleidoscope_14 rfl hl (by decide) rfl (fun ls hl => ?_)
        refine w_15 _ _  () (fun  H locs ls hP hD hS hl h => ?_) N _  _ _ _ hP hD hS (lv_sub hl [1, 2, 0] rfl) h
        refine lv_iinc (v := (x1 + 1)) (lv' := [(1, .int (x1 + 1)), (0, .ref c0)]) hx hb dX4_isKaleidoscope_47 hl (k := 1) rfl rfl (by decide) rfl (fun ls hl => ?_)
        refine lv_goto (tgt := 2) hx hb dX4_isKaleidoscope_50 (by decide) ?_
        exact ih _ _ _ _ hP hD hS (lv_sub hl [1, 0] rfl) h
  rw [fX4_isKaleidoscope.eq_1] at h
  refine lv_iconst (v := 0) hx hb dX4_isKaleidoscope_0 (by decide) ?_
  refine lv_istore_n (lv' := [(1, .int 0), (0, .ref c0)]) hx hb dX4_isKaleidoscope_1 rfl hl (by decide) rfl (fun ls hl => ?_)
  exact w_2    ()  N _  _ _ _ hP hD hS (lv_sub hl [1, 0] rfl) h
def fX4_pairs_b19 (N : Nat) (l_n : Int32) (m_t : Nat → Int32) (m_n : Int32) (x2 : Int32) (k_51 : Int32 → Option (Int32)) : Nat → Int32 → Int32 → Option (Int32)
  | 0, _, _ => none
  | n + 1, x1, x3 => bd (fX1_count N l_n) (fun u_1441 => if u_1441 ≤ x3 then k_51 x1 else bd (fX2_isLowestPair N m_t m_n x2 x3) (fun u_1444 => if u_1444 = 0 then fX4_pairs_b19 N l_n m_t m_n x2 k_51 n x1 (x3 + 1) else fX4_pairs_b19 N l_n m_t m_n x2 k_51 n (x1 + 1) (x3 + 1)))
def fX4_pairs_b4 (N : Nat) (l_n : Int32) (m_t : Nat → Int32) (m_n : Int32) : Nat → Int32 → Int32 → Option (Int32)
  | 0, _, _ => none
  | n + 1, x1, x2 => bd (fX1_count N l_n) (fun u_1447 => if u_1447 ≤ x2 then some x1 else fX4_pairs_b19 N l_n m_t m_n x2 (fun (x1_1450 : Int32) => fX4_pairs_b4 N l_n m_t m_n n x1_1450 (x2 + 1)) N x1 (x2 + 1))
def fX4_pairs (N : Nat) (l_n : Int32) (m_t : Nat → Int32) (m_n : Int32) : Option (Int32) := fX4_pairs_b4 N l_n m_t m_n N 0 0
set_option maxHeartbeats 4000000 in
set_option maxRecDepth 100000 in
theorem kX4_pairs {l : Launch} {G : wG} (c0 l0 l1 l2 l3 m0 m1 m2 m3 m4 m5 r0 r1 r2 r3 g0 : Nat) (g_e : Int64) (l_a : Nat → Int32) (l_b : Nat → Int32) (l_c : Nat → Int32) (l_n : Int32) (m_x : Nat → Int32) (m_y : Nat → Int32) (m_d : Nat → Int32) (m_t : Nat → Int32) (m_v : Nat → Int32) (m_n : Int32) (r_s : Nat → Int32) (r_n : Nat → Int32) (r_w : Nat → Int32) (r_k : Int32) (N : Nat) (v : Int32) (h : fX4_pairs N l_n m_t m_n = some v) : wCi l G yX4_pairs wsX4_pairs ({ frames := 4, cells := 0, slots := 0, locals := 86 } : Room) [.ref c0] (w_C G c0 l0 l1 l2 l3 m0 m1 m2 m3 m4 m5 r0 r1 r2 r3 g0 g_e l_a l_b l_c l_n m_x m_y m_d m_t m_v m_n r_s r_n r_w r_k) (w_C G c0 l0 l1 l2 l3 m0 m1 m2 m3 m4 m5 r0 r1 r2 r3 g0 g_e l_a l_b l_c l_n m_x m_y m_d m_t m_v m_n r_s r_n r_w r_k) 0 0 v := by
  refine wCi.mk (cc := cX4_pairs) (maxL := 4) (ty := .int) (by decide) rfl (Nat.le_of_ble_eq_true rfl) ?_
  intro p e s m below meth c A ls hx hb hml hr hlocks hts hown hK hA hP hD hl
  have hx : p.tables.exec = Jvm.exec := hx
  have hown : s.vm.findClass RX4 = some m.cls := hown
  have hinX4 : ∀ w ∈ wsX40, w ∈ wsX4_pairs := by decide +kernel
  have lk10 := hts (.fieldLink RX4 10 "Chamberwright" "lines" "LChamberwright$Lines;") (by decide +kernel)
  have lk19 := hts (.fieldLink RX4 19 "Chamberwright" "meets" "LChamberwright$Meets;") (by decide +kernel)
  have hS : va_S A s.heap s.heap [] := va_S.rf
  have hP : va_P G.1 vwCl (w_C G c0 l0 l1 l2 l3 m0 m1 m2 m3 m4 m5 r0 r1 r2 r3 g0 g_e l_a l_b l_c l_n m_x m_y m_d m_t m_v m_n r_s r_n r_w r_k) s.heap := hP
  have hD : va_D A (w_C G c0 l0 l1 l2 l3 m0 m1 m2 m3 m4 m5 r0 r1 r2 r3 g0 g_e l_a l_b l_c l_n m_x m_y m_d m_t m_v m_n r_s r_n r_w r_k) := hD
  have hl : lv_has ls 4 [(0, .ref c0)] := hl
  obtain ⟨args, hargs⟩ : ∃ z : Array Value, z = ([.ref c0] : List Value).toArray := ⟨_, rfl⟩
  rw [← hargs]
  rw [← hargs] at hts
  have w_19 : ∀ (k_51 : Int32 → Option (Int32)) (x2 : Int32)  (_z : Unit), (∀ (y1 : Int32) (H : Heap) (locs : List Loc) (ls : Array Slot), va_P G.1 vwCl (w_C G c0 l0 l1 l2 l3 m0 m1 m2 m3 m4 m5 r0 r1 r2 r3 g0 g_e l_a l_b l_c l_n m_x m_y m_d m_t m_v m_n r_s r_n r_w r_k) H → va_D A (w_C G c0 l0 l1 l2 l3 m0 m1 m2 m3 m4 m5 r0 r1 r2 r3 g0 g_e l_a l_b l_c l_n m_x m_y m_d m_t m_v m_n r_s r_n r_w r_k) → va_S A s.heap H locs → lv_has ls 4 [(0, .ref c0), (1, .int y1), (2, .int x2)] → k_51 y1 = some v → W p l e ({ frames := 4, cells := 0, slots := 0, locals := 86 } : Room) s m args below meth c H locs 0 0 (wQi G A below args s (w_C G c0 l0 l1 l2 l3 m0 m1 m2 m3 m4 m5 r0 r1 r2 r3 g0 g_e l_a l_b l_c l_n m_x m_y m_d m_t m_v m_n r_s r_n r_w r_k) 0 0 v) (F0 m 51 ls [])) → ∀ (n : Nat) (x1 : Int32) (x3 : Int32)  (H : Heap) (locs : List Loc) (ls : Array Slot), va_P G.1 vwCl (w_C G c0 l0 l1 l2 l3 m0 m1 m2 m3 m4 m5 r0 r1 r2 r3 g0 g_e l_a l_b l_c l_n m_x m_y m_d m_t m_v m_n r_s r_n r_w r_k) H → va_D A (w_C G c0 l0 l1 l2 l3 m0 m1 m2 m3 m4 m5 r0 r1 r2 r3 g0 g_e l_a l_b l_c l_n m_x m_y m_d m_t m_v m_n r_s r_n r_w r_k) → va_S A s.heap H locs → lv_has ls 4 [(0, .ref c0), (1, .int x1), (2, .int x2), (3, .int x3)] → fX4_pairs_b19 N l_n m_t m_n x2 k_51 n x1 x3 = some v → W p l e ({ frames := 4, cells := 0, slots := 0, locals := 86 } : Room) s m args below meth c H locs 0 0 (wQi G A below args s (w_C G c0 l0 l1 l2 l3 m0 m1 m2 m3 m4 m5 r0 r1 r2 r3 g0 g_e l_a l_b l_c l_n m_x m_y m_d m_t m_v m_n r_s r_n r_w r_k) 0 0 v) (F0 m 19 ls []) := by
    intro k_51 x2 _z hk_51 n
    induction n with
    | zero =>
      intro x1 x3 H locs ls hP hD hS hl h
      rw [fX4_pairs_b19.eq_1] at h
      cases h
    | succ n ih =>
      intro x1 x3 H locs ls hP hD hS hl h
      rw [fX4_pairs_b19.eq_2] at h
      refine lv_iload_n hx hb dX4_pairs_19 rfl (lv_at hl 3 rfl) ?_
      refine lv_aload_n hx hb dX4_pairs_20 rfl (lv_at hl 0 rfl) ?_
      refine va_get (D := G.1) (ci := 4) (v := .ref l0) (C := RX4) (T := TX4) (N := 4) hx hb hts hinX4 hown hK.1 hP 0 rfl rfl 0 (by decide) lk10 (fun _ h9 => h9) rfl dX4_pairs_21 ?_
      obtain ⟨u_1441, hc_1442, h⟩ := bd_inv h
      refine wafter_i (wr := [(c0, .inr (4, [.ref l0, .ref m0, .ref r0, .ref g0])), (m0, .inr (2, [.ref m1, .ref m2, .ref m3, .ref m4, .ref m5, .int m_n])), (m1, .inl (G.2.1, 36, .inl m_x)), (m2, .inl (G.2.1, 36, .inl m_y)), (m3, .inl (G.2.1, 36, .inl m_d)), (m4, .inl (G.2.1, 36, .inl m_t)), (m5, .inl (G.2.1, 36, .inl m_v)), (r0, .inr (3, [.ref r1, .ref r2, .ref r3, .int r_k])), (r1, .inl (G.2.1, 46, .inl r_s)), (r2, .inl (G.2.1, 512, .inl r_n)), (r3, .inl (G.2.1, 512, .inl r_w)), (g0, .inr (0, [.long g_e]))]) (w2 := (w_C G c0 l0 l1 l2 l3 m0 m1 m2 m3 m4 m5 r0 r1 r2 r3 g0 g_e l_a l_b l_c l_n m_x m_y m_d m_t m_v m_n r_s r_n r_w r_k)) (va_runV (As := []) (rest := [.int x3]) ⟨hx, hb, hml, hown, hts⟩ (kX1_count (l := l) (G := G) l0 l1 l2 l3 l_a l_b l_c l_n  N u_1441 hc_1442 _) (cwV 0 hts gX4_pairs_X1_count rfl rfl rfl (by decide +kernel) ⟨Nat.le_of_ble_eq_true rfl, Nat.le_of_ble_eq_true rfl⟩) (wPreV hP hD hK [1, 2, 3, 4] rfl rfl (ci := 1) (qb := 1) rfl rfl rfl) rfl rfl hl.1 rfl (lv_room (Nat.le_of_ble_eq_true rfl)) dX4_pairs_24 ⟨Nat.zero_le _, Nat.zero_le _⟩) hP hD hS hA [1, 2, 3, 4] [0, 5, 6, 7, 8, 9, 10, 11, 12, 13, 14, 15] [0, 12, 13, 14, 15, 1, 2, 3, 4, 5, 6, 7, 8, 9, 10, 11] rfl rfl rfl (by decide) rfl rfl (fun H locs hP hD hS => ?_)
      refine lv_icmp_ge (tgt := 51) hx hb dX4_pairs_27 (by decide) (fun c_1443 => ?_) (fun c_1443 => ?_)
      · have h := ip c_1443 h
        exact hk_51 _ _ _ _ hP hD hS (lv_sub hl [0, 1, 2] rfl) h
      · have h := iq c_1443 h
        refine lv_aload_n hx hb dX4_pairs_30 rfl (lv_at hl 0 rfl) ?_
        refine va_get (D := G.1) (ci := 4) (v := .ref m0) (C := RX4) (T := TX4) (N := 4) hx hb hts hinX4 hown hK.1 hP 0 rfl rfl 1 (by decide) lk19 (fun _ h9 => h9) rfl dX4_pairs_31 ?_
        refine lv_iload_n hx hb dX4_pairs_34 rfl (lv_at hl 2 rfl) ?_
        refine lv_iload_n hx hb dX4_pairs_35 rfl (lv_at hl 3 rfl) ?_
        obtain ⟨u_1444, hc_1445, h⟩ := bd_inv h
        refine wafter_i (wr := [(c0, .inr (4, [.ref l0, .ref m0, .ref r0, .ref g0])), (l0, .inr (1, [.ref l1, .ref l2, .ref l3, .int l_n])), (l1, .inl (G.2.1, 9, .inl l_a)), (l2, .inl (G.2.1, 9, .inl l_b)), (l3, .inl (G.2.1, 9, .inl l_c)), (r0, .inr (3, [.ref r1, .ref r2, .ref r3, .int r_k])), (r1, .inl (G.2.1, 46, .inl r_s)), (r2, .inl (G.2.1, 512, .inl r_n)), (r3, .inl (G.2.1, 512, .inl r_w)), (g0, .inr (0, [.long g_e]))]) (w2 := (w_C G c0 l0 l1 l2 l3 m0 m1 m2 m3 m4 m5 r0 r1 r2 r3 g0 g_e l_a l_b l_c l_n m_x m_y m_d m_t m_v m_n r_s r_n r_w r_k)) (va_runV (As := [.int x2, .int x3]) (rest := []) ⟨hx, hb, hml, hown, hts⟩ (kX2_isLowestPair (l := l) (G := G) m0 m1 m2 m3 m4 m5 m_x m_y m_d m_t m_v m_n x2 x3 N u_1444 hc_1445 _) (cwV 2 hts gX4_pairs_X2_isLowestPair rfl rfl rfl (by decide +kernel) ⟨Nat.le_of_ble_eq_true rfl, Nat.le_of_ble_eq_true rfl⟩) (wPreV hP hD hK [5, 6, 7, 8, 9, 10] rfl rfl (ci := 2) (qb := 5) rfl rfl rfl) rfl rfl hl.1 rfl (lv_room (Nat.le_of_ble_eq_true rfl)) dX4_pairs_36 ⟨Nat.zero_le _, Nat.zero_le _⟩) hP hD hS hA [5, 6, 7, 8, 9, 10] [0, 1, 2, 3, 4, 11, 12, 13, 14, 15] [0, 1, 2, 3, 4, 10, 11, 12, 13, 14, 15, 5, 6, 7, 8, 9] rfl rfl rfl (by decide) rfl rfl (fun H locs hP hD hS => ?_)
        refine lv_if_eq (tgt := 45) hx hb dX4_pairs_39 (by decide) (fun c_1446 => ?_) (fun c_1446 => ?_)
        · have h := ip c_1446 h
          refine lv_iinc (v := (x3 + 1)) (lv' := [(3, .int (x3 + 1)), (0, .ref c0), (1, .int x1), (2, .int x2)]) hx hb dX4_pairs_45 hl (k := 3) rfl rfl (by decide) rfl (fun ls hl => ?_)
          refine lv_goto (tgt := 19) hx hb dX4_pairs_48 (by decide) ?_
          exact ih _ _ _ _ _ hP hD hS (lv_sub hl [1, 2, 3, 0] rfl) h
        · have h := iq c_1446 h
          refine lv_iinc (v := (x1 + 1)) (lv' := [(1, .int (x1 + 1)), (0, .ref c0), (2, .int x2), (3, .int x3)]) hx hb dX4_pairs_42 hl (k := 1) rfl rfl (by decide) rfl (fun ls hl => ?_)
          refine lv_iinc (v := (x3 + 1)) (lv' := [(3, .int (x3 + 1)), (1, .int (x1 + 1)), (0, .ref c0), (2, .int x2)]) hx hb dX4_pairs_45 hl (k := 3) rfl rfl (by decide) rfl (fun ls hl => ?_)
          refine lv_goto (tgt := 19) hx hb dX4_pairs_48 (by decide) ?_
          exact ih _ _ _ _ _ hP hD hS (lv_sub hl [2, 1, 3, 0] rfl) h
  have w_4 : ∀   (_z : Unit), ∀ (n : Nat) (x1 : Int32) (x2 : Int32)  (H : Heap) (locs : List Loc) (ls : Array Slot), va_P G.1 vwCl (w_C G c0 l0 l1 l2 l3 m0 m1 m2 m3 m4 m5 r0 r1 r2 r3 g0 g_e l_a l_b l_c l_n m_x m_y m_d m_t m_v m_n r_s r_n r_w r_k) H → va_D A (w_C G c0 l0 l1 l2 l3 m0 m1 m2 m3 m4 m5 r0 r1 r2 r3 g0 g_e l_a l_b l_c l_n m_x m_y m_d m_t m_v m_n r_s r_n r_w r_k) → va_S A s.heap H locs → lv_has ls 4 [(0, .ref c0), (1, .int x1), (2, .int x2)] → fX4_pairs_b4 N l_n m_t m_n n x1 x2 = some v → W p l e ({ frames := 4, cells := 0, slots := 0, locals := 86 } : Room) s m args below meth c H locs 0 0 (wQi G A below args s (w_C G c0 l0 l1 l2 l3 m0 m1 m2 m3 m4 m5 r0 r1 r2 r3 g0 g_e l_a l_b l_c l_n m_x m_y m_d m_t m_v m_n r_s r_n r_w r_k) 0 0 v) (F0 m 4 ls []) := by
    intro _z n
    induction n with
    | zero =>
      intro x1 x2 H locs ls hP hD hS hl h
      rw [fX4_pairs_b4.eq_1] at h
      cases h
    | succ n ih =>
      intro x1 x2 H locs ls hP hD hS hl h
      rw [fX4_pairs_b4.eq_2] at h
      refine lv_iload_n hx hb dX4_pairs_4 rfl (lv_at hl 2 rfl) ?_
      refine lv_aload_n hx hb dX4_pairs_5 rfl (lv_at hl 0 rfl) ?_
      refine va_get (D := G.1) (ci := 4) (v := .ref l0) (C := RX4) (T := TX4) (N := 4) hx hb hts hinX4 hown hK.1 hP 0 rfl rfl 0 (by decide) lk10 (fun _ h9 => h9) rfl dX4_pairs_6 ?_
      obtain ⟨u_1447, hc_1448, h⟩ := bd_inv h
      refine wafter_i (wr := [(c0, .inr (4, [.ref l0, .ref m0, .ref r0, .ref g0])), (m0, .inr (2, [.ref m1, .ref m2, .ref m3, .ref m4, .ref m5, .int m_n])), (m1, .inl (G.2.1, 36, .inl m_x)), (m2, .inl (G.2.1, 36, .inl m_y)), (m3, .inl (G.2.1, 36, .inl m_d)), (m4, .inl (G.2.1, 36, .inl m_t)), (m5, .inl (G.2.1, 36, .inl m_v)), (r0, .inr (3, [.ref r1, .ref r2, .ref r3, .int r_k])), (r1, .inl (G.2.1, 46, .inl r_s)), (r2, .inl (G.2.1, 512, .inl r_n)), (r3, .inl (G.2.1, 512, .inl r_w)), (g0, .inr (0, [.long g_e]))]) (w2 := (w_C G c0 l0 l1 l2 l3 m0 m1 m2 m3 m4 m5 r0 r1 r2 r3 g0 g_e l_a l_b l_c l_n m_x m_y m_d m_t m_v m_n r_s r_n r_w r_k)) (va_runV (As := []) (rest := [.int x2]) ⟨hx, hb, hml, hown, hts⟩ (kX1_count (l := l) (G := G) l0 l1 l2 l3 l_a l_b l_c l_n  N u_1447 hc_1448 _) (cwV 0 hts gX4_pairs_X1_count rfl rfl rfl (by decide +kernel) ⟨Nat.le_of_ble_eq_true rfl, Nat.le_of_ble_eq_true rfl⟩) (wPreV hP hD hK [1, 2, 3, 4] rfl rfl (ci := 1) (qb := 1) rfl rfl rfl) rfl rfl hl.1 rfl (lv_room (Nat.le_of_ble_eq_true rfl)) dX4_pairs_9 ⟨Nat.zero_le _, Nat.zero_le _⟩) hP hD hS hA [1, 2, 3, 4] [0, 5, 6, 7, 8, 9, 10, 11, 12, 13, 14, 15] [0, 12, 13, 14, 15, 1, 2, 3, 4, 5, 6, 7, 8, 9, 10, 11] rfl rfl rfl (by decide) rfl rfl (fun H locs hP hD hS => ?_)
      refine lv_icmp_ge (tgt := 57) hx hb dX4_pairs_12 (by decide) (fun c_1449 => ?_) (fun c_1449 => ?_)
      · have h := ip c_1449 h
        refine lv_iload_n hx hb dX4_pairs_57 rfl (lv_at hl 1 rfl) ?_
        obtain rfl := Option.some.inj h
        exact wri hx hb hr hlocks hP hD hS (Nat.le_of_ble_eq_true rfl) (Nat.le_of_ble_eq_true rfl) rfl dX4_pairs_58
      · have h := iq c_1449 h
        refine lv_iload_n hx hb dX4_pairs_15 rfl (lv_at hl 2 rfl) ?_
        refine lv_iconst (v := 1) hx hb dX4_pairs_16 (by decide) ?_
        refine lv_iadd hx hb dX4_pairs_17 ?_
        refine lv_istore_n (lv' := [(3, .int (x2 + 1)), (0, .ref c0), (1, .int x1), (2, .int x2)]) hx hb dX4_pairs_18 rfl hl (by decide) rfl (fun ls hl => ?_)
        refine w_19 _ _  () (fun x1_1450 H locs ls hP hD hS hl h => ?_) N _ _  _ _ _ hP hD hS (lv_sub hl [1, 2, 3, 0] rfl) h
        refine lv_iinc (v := (x2 + 1)) (lv' := [(2, .int (x2 + 1)), (0, .ref c0), (1, .int x1_1450)]) hx hb dX4_pairs_51 hl (k := 2) rfl rfl (by decide) rfl (fun ls hl => ?_)
        refine lv_goto (tgt := 4) hx hb dX4_pairs_54 (by decide) ?_
        exact ih _ _ _ _ _ hP hD hS (lv_sub hl [1, 2, 0] rfl) h
  rw [fX4_pairs.eq_1] at h
  refine lv_iconst (v := 0) hx hb dX4_pairs_0 (by decide) ?_
  refine lv_istore_n (lv' := [(1, .int 0), (0, .ref c0)]) hx hb dX4_pairs_1 rfl hl (by decide) rfl (fun ls hl => ?_)
  refine lv_iconst (v := 0) hx hb dX4_pairs_2 (by decide) ?_
  refine lv_istore_n (lv' := [(2, .int 0), (1, .int 0), (0, .ref c0)]) hx hb dX4_pairs_3 rfl hl (by decide) rfl (fun ls hl => ?_)
  exact w_4    ()  N _ _  _ _ _ hP hD hS (lv_sub hl [2, 1, 0] rfl) h
def fX4_pair_b24 (N : Nat) (l_n : Int32) (m_t : Nat → Int32) (m_n : Int32) (x1 : Int32) (x3 : Int32) (k_57 : Int32 → Option (String ⊕ (Int32))) (k_77 : Int32 → Option (String ⊕ (Int32))) : Nat → Int32 → Int32 → Option (String ⊕ (Int32))
  | 0, _, _ => none
  | n + 1, x2, x4 => bd (fX1_count N l_n) (fun u_1451 => if u_1451 ≤ x4 then k_77 x2 else bd (fX2_isLowestPair N m_t m_n x3 x4) (fun u_1454 => if u_1454 = 0 then fX4_pair_b24 N l_n m_t m_n x1 x3 k_57 k_77 n x2 (x4 + 1) else if x2 = x1 then k_57 x4 else fX4_pair_b24 N l_n m_t m_n x1 x3 k_57 k_77 n (x2 + 1) (x4 + 1)))
def fX4_pair_b8 (N : Nat) (l_n : Int32) (m_t : Nat → Int32) (m_n : Int32) (x1 : Int32) (k_57 : Int32 → Int32 → Option (String ⊕ (Int32))) : Nat → Int32 → Int32 → Option (String ⊕ (Int32))
  | 0, _, _ => none
  | n + 1, x2, x3 => bd (fX1_count N l_n) (fun u_1458 => if u_1458 ≤ x3 then some (.inr ((-1))) else fX4_pair_b24 N l_n m_t m_n x1 x3 (fun (x4_1461 : Int32) => k_57 x3 x4_1461) (fun (x2_1462 : Int32) => fX4_pair_b8 N l_n m_t m_n x1 k_57 n x2_1462 (x3 + 1)) N x2 (x3 + 1))
def fX4_pair (N : Nat) (l_n : Int32) (m_t : Nat → Int32) (m_n : Int32) (x1 : Int32) : Option (String ⊕ (Int32)) := bdx (fX4_checkPlace N x1) (fun u_1463 => fX4_pair_b8 N l_n m_t m_n x1 (fun (x3_1465 : Int32) (x4_1466 : Int32) => bd (fX4_bit N x3_1465) (fun u_1467 => bd (fX4_bit N x4_1466) (fun u_1469 => some (.inr ((u_1467 ||| u_1469)))))) N 0 0)
set_option maxHeartbeats 4000000 in
set_option maxRecDepth 100000 in
theorem kX4_pair {l : Launch} (hst : l.stackTraces = false) {G : wG} (c0 l0 l1 l2 l3 m0 m1 m2 m3 m4 m5 r0 r1 r2 r3 g0 : Nat) (g_e : Int64) (l_a : Nat → Int32) (l_b : Nat → Int32) (l_c : Nat → Int32) (l_n : Int32) (m_x : Nat → Int32) (m_y : Nat → Int32) (m_d : Nat → Int32) (m_t : Nat → Int32) (m_v : Nat → Int32) (m_n : Int32) (r_s : Nat → Int32) (r_n : Nat → Int32) (r_w : Nat → Int32) (r_k : Int32) (x1 : Int32) (N : Nat) (v : String ⊕ (Int32)) (h : fX4_pair N l_n m_t m_n x1 = some v) : wXi l G yX4_pair wsX4_pair ({ frames := 7, cells := 4, slots := 24, locals := 120 } : Room) [.ref c0, .int x1] (w_C G c0 l0 l1 l2 l3 m0 m1 m2 m3 m4 m5 r0 r1 r2 r3 g0 g_e l_a l_b l_c l_n m_x m_y m_d m_t m_v m_n r_s r_n r_w r_k) v (fun t : Int32 => (w_C G c0 l0 l1 l2 l3 m0 m1 m2 m3 m4 m5 r0 r1 r2 r3 g0 g_e l_a l_b l_c l_n m_x m_y m_d m_t m_v m_n r_s r_n r_w r_k)) (fun t : Int32 => t) 4 24 := by
  refine wXi.mk (cc := cX4_pair) (maxL := 5) (ty := .int) (by decide) rfl (Nat.le_of_ble_eq_true rfl) ?_
  intro p e s m below meth c A ls hx hb hml hr hlocks hts hown hK hA hP hD hT hnoh hl
  have hx : p.tables.exec = Jvm.exec := hx
  have hown : s.vm.findClass RX4 = some m.cls := hown
  have hinX4 : ∀ w ∈ wsX40, w ∈ wsX4_pair := by decide +kernel
  have lk10 := hts (.fieldLink RX4 10 "Chamberwright" "lines" "LChamberwright$Lines;") (by decide +kernel)
  have lk19 := hts (.fieldLink RX4 19 "Chamberwright" "meets" "LChamberwright$Meets;") (by decide +kernel)
  have hS : va_S A s.heap s.heap [] := va_S.rf
  have hP : va_P G.1 vwCl (w_C G c0 l0 l1 l2 l3 m0 m1 m2 m3 m4 m5 r0 r1 r2 r3 g0 g_e l_a l_b l_c l_n m_x m_y m_d m_t m_v m_n r_s r_n r_w r_k) s.heap := hP
  have hD : va_D A (w_C G c0 l0 l1 l2 l3 m0 m1 m2 m3 m4 m5 r0 r1 r2 r3 g0 g_e l_a l_b l_c l_n m_x m_y m_d m_t m_v m_n r_s r_n r_w r_k) := hD
  have hl : lv_has ls 5 [(0, .ref c0), (1, .int x1)] := hl
  obtain ⟨args, hargs⟩ : ∃ z : Array Value, z = ([.ref c0, .int x1] : List Value).toArray := ⟨_, rfl⟩
  rw [← hargs]
  rw [← hargs] at hts
  have w_24 : ∀ (k_57 : Int32 → Option (String ⊕ (Int32))) (k_77 : Int32 → Option (String ⊕ (Int32))) (x1 : Int32) (x3 : Int32)  (_z : Unit), (∀ (y4 : Int32) (H : Heap) (locs : List Loc) (ls : Array Slot), va_P G.1 vwCl (w_C G c0 l0 l1 l2 l3 m0 m1 m2 m3 m4 m5 r0 r1 r2 r3 g0 g_e l_a l_b l_c l_n m_x m_y m_d m_t m_v m_n r_s r_n r_w r_k) H → va_D A (w_C G c0 l0 l1 l2 l3 m0 m1 m2 m3 m4 m5 r0 r1 r2 r3 g0 g_e l_a l_b l_c l_n m_x m_y m_d m_t m_v m_n r_s r_n r_w r_k) → va_S A s.heap H locs → lv_has ls 5 [(3, .int x3), (4, .int y4)] → k_57 y4 = some v → W p l e ({ frames := 7, cells := 4, slots := 24, locals := 120 } : Room) s m args below meth c H locs 3 18 (wQxi G A below args s (w_C G c0 l0 l1 l2 l3 m0 m1 m2 m3 m4 m5 r0 r1 r2 r3 g0 g_e l_a l_b l_c l_n m_x m_y m_d m_t m_v m_n r_s r_n r_w r_k) v (fun t : Int32 => (w_C G c0 l0 l1 l2 l3 m0 m1 m2 m3 m4 m5 r0 r1 r2 r3 g0 g_e l_a l_b l_c l_n m_x m_y m_d m_t m_v m_n r_s r_n r_w r_k)) (fun t : Int32 => t) 4 24) (F0 m 57 ls [])) → (∀ (y2 : Int32) (H : Heap) (locs : List Loc) (ls : Array Slot), va_P G.1 vwCl (w_C G c0 l0 l1 l2 l3 m0 m1 m2 m3 m4 m5 r0 r1 r2 r3 g0 g_e l_a l_b l_c l_n m_x m_y m_d m_t m_v m_n r_s r_n r_w r_k) H → va_D A (w_C G c0 l0 l1 l2 l3 m0 m1 m2 m3 m4 m5 r0 r1 r2 r3 g0 g_e l_a l_b l_c l_n m_x m_y m_d m_t m_v m_n r_s r_n r_w r_k) → va_S A s.heap H locs → lv_has ls 5 [(0, .ref c0), (1, .int x1), (2, .int y2), (3, .int x3)] → k_77 y2 = some v → W p l e ({ frames := 7, cells := 4, slots := 24, locals := 120 } : Room) s m args below meth c H locs 3 18 (wQxi G A below args s (w_C G c0 l0 l1 l2 l3 m0 m1 m2 m3 m4 m5 r0 r1 r2 r3 g0 g_e l_a l_b l_c l_n m_x m_y m_d m_t m_v m_n r_s r_n r_w r_k) v (fun t : Int32 => (w_C G c0 l0 l1 l2 l3 m0 m1 m2 m3 m4 m5 r0 r1 r2 r3 g0 g_e l_a l_b l_c l_n m_x m_y m_d m_t m_v m_n r_s r_n r_w r_k)) (fun t : Int32 => t) 4 24) (F0 m 77 ls [])) → ∀ (n : Nat) (x2 : Int32) (x4 : Int32)  (H : Heap) (locs : List Loc) (ls : Array Slot), va_P G.1 vwCl (w_C G c0 l0 l1 l2 l3 m0 m1 m2 m3 m4 m5 r0 r1 r2 r3 g0 g_e l_a l_b l_c l_n m_x m_y m_d m_t m_v m_n r_s r_n r_w r_k) H → va_D A (w_C G c0 l0 l1 l2 l3 m0 m1 m2 m3 m4 m5 r0 r1 r2 r3 g0 g_e l_a l_b l_c l_n m_x m_y m_d m_t m_v m_n r_s r_n r_w r_k) → va_S A s.heap H locs → lv_has ls 5 [(0, .ref c0), (1, .int x1), (2, .int x2), (3, .int x3), (4, .int x4)] → fX4_pair_b24 N l_n m_t m_n x1 x3 k_57 k_77 n x2 x4 = some v → W p l e ({ frames := 7, cells := 4, slots := 24, locals := 120 } : Room) s m args below meth c H locs 3 18 (wQxi G A below args s (w_C G c0 l0 l1 l2 l3 m0 m1 m2 m3 m4 m5 r0 r1 r2 r3 g0 g_e l_a l_b l_c l_n m_x m_y m_d m_t m_v m_n r_s r_n r_w r_k) v (fun t : Int32 => (w_C G c0 l0 l1 l2 l3 m0 m1 m2 m3 m4 m5 r0 r1 r2 r3 g0 g_e l_a l_b l_c l_n m_x m_y m_d m_t m_v m_n r_s r_n r_w r_k)) (fun t : Int32 => t) 4 24) (F0 m 24 ls []) := by
    intro k_57 k_77 x1 x3 _z hk_57 hk_77 n
    induction n with
    | zero =>
      intro x2 x4 H locs ls hP hD hS hl h
      rw [fX4_pair_b24.eq_1] at h
      cases h
    | succ n ih =>
      intro x2 x4 H locs ls hP hD hS hl h
      rw [fX4_pair_b24.eq_2] at h
      refine lv_iload hx hb dX4_pair_24 (lv_at hl 4 rfl) ?_
      refine lv_aload_n hx hb dX4_pair_26 rfl (lv_at hl 0 rfl) ?_
      refine va_get (D := G.1) (ci := 4) (v := .ref l0) (C := RX4) (T := TX4) (N := 4) hx hb hts hinX4 hown hK.1 hP 0 rfl rfl 0 (by decide) lk10 (fun _ h9 => h9) rfl dX4_pair_27 ?_
      obtain ⟨u_1451, hc_1452, h⟩ := bd_inv h
      refine wafter_i (wr := [(c0, .inr (4, [.ref l0, .ref m0, .ref r0, .ref g0])), (m0, .inr (2, [.ref m1, .ref m2, .ref m3, .ref m4, .ref m5, .int m_n])), (m1, .inl (G.2.1, 36, .inl m_x)), (m2, .inl (G.2.1, 36, .inl m_y)), (m3, .inl (G.2.1, 36, .inl m_d)), (m4, .inl (G.2.1, 36, .inl m_t)), (m5, .inl (G.2.1, 36, .inl m_v)), (r0, .inr (3, [.ref r1, .ref r2, .ref r3, .int r_k])), (r1, .inl (G.2.1, 46, .inl r_s)), (r2, .inl (G.2.1, 512, .inl r_n)), (r3, .inl (G.2.1, 512, .inl r_w)), (g0, .inr (0, [.long g_e]))]) (w2 := (w_C G c0 l0 l1 l2 l3 m0 m1 m2 m3 m4 m5 r0 r1 r2 r3 g0 g_e l_a l_b l_c l_n m_x m_y m_d m_t m_v m_n r_s r_n r_w r_k)) (va_runV (As := []) (rest := [.int x4]) ⟨hx, hb, hml, hown, hts⟩ (kX1_count (l := l) (G := G) l0 l1 l2 l3 l_a l_b l_c l_n  N u_1451 hc_1452 _) (cwV 0 hts gX4_pair_X1_count rfl rfl rfl (by decide +kernel) ⟨Nat.le_of_ble_eq_true rfl, Nat.le_of_ble_eq_true rfl⟩) (wPreV hP hD hK [1, 2, 3, 4] rfl rfl (ci := 1) (qb := 1) rfl rfl rfl) rfl rfl hl.1 rfl (lv_room (Nat.le_of_ble_eq_true rfl)) dX4_pair_30 ⟨Nat.le_of_ble_eq_true rfl, Nat.le_of_ble_eq_true rfl⟩) hP hD hS hA [1, 2, 3, 4] [0, 5, 6, 7, 8, 9, 10, 11, 12, 13, 14, 15] [0, 12, 13, 14, 15, 1, 2, 3, 4, 5, 6, 7, 8, 9, 10, 11] rfl rfl rfl (by decide) rfl rfl (fun H locs hP hD hS => ?_)
      refine lv_icmp_ge (tgt := 77) hx hb dX4_pair_33 (by decide) (fun c_1453 => ?_) (fun c_1453 => ?_)
      · have h := ip c_1453 h
        exact hk_77 _ _ _ _ hP hD hS (lv_sub hl [0, 1, 2, 3] rfl) h
      · have h := iq c_1453 h
        refine lv_aload_n hx hb dX4_pair_36 rfl (lv_at hl 0 rfl) ?_
        refine va_get (D := G.1) (ci := 4) (v := .ref m0) (C := RX4) (T := TX4) (N := 4) hx hb hts hinX4 hown hK.1 hP 0 rfl rfl 1 (by decide) lk19 (fun _ h9 => h9) rfl dX4_pair_37 ?_
        refine lv_iload_n hx hb dX4_pair_40 rfl (lv_at hl 3 rfl) ?_
        refine lv_iload hx hb dX4_pair_41 (lv_at hl 4 rfl) ?_
        obtain ⟨u_1454, hc_1455, h⟩ := bd_inv h
        refine wafter_i (wr := [(c0, .inr (4, [.ref l0, .ref m0, .ref r0, .ref g0])), (l0, .inr (1, [.ref l1, .ref l2, .ref l3, .int l_n])), (l1, .inl (G.2.1, 9, .inl l_a)), (l2, .inl (G.2.1, 9, .inl l_b)), (l3, .inl (G.2.1, 9, .inl l_c)), (r0, .inr (3, [.ref r1, .ref r2, .ref r3, .int r_k])), (r1, .inl (G.2.1, 46, .inl r_s)), (r2, .inl (G.2.1, 512, .inl r_n)), (r3, .inl (G.2.1, 512, .inl r_w)), (g0, .inr (0, [.long g_e]))]) (w2 := (w_C G c0 l0 l1 l2 l3 m0 m1 m2 m3 m4 m5 r0 r1 r2 r3 g0 g_e l_a l_b l_c l_n m_x m_y m_d m_t m_v m_n r_s r_n r_w r_k)) (va_runV (As := [.int x3, .int x4]) (rest := []) ⟨hx, hb, hml, hown, hts⟩ (kX2_isLowestPair (l := l) (G := G) m0 m1 m2 m3 m4 m5 m_x m_y m_d m_t m_v m_n x3 x4 N u_1454 hc_1455 _) (cwV 2 hts gX4_pair_X2_isLowestPair rfl rfl rfl (by decide +kernel) ⟨Nat.le_of_ble_eq_true rfl, Nat.le_of_ble_eq_true rfl⟩) (wPreV hP hD hK [5, 6, 7, 8, 9, 10] rfl rfl (ci := 2) (qb := 5) rfl rfl rfl) rfl rfl hl.1 rfl (lv_room (Nat.le_of_ble_eq_true rfl)) dX4_pair_43 ⟨Nat.le_of_ble_eq_true rfl, Nat.le_of_ble_eq_true rfl⟩) hP hD hS hA [5, 6, 7, 8, 9, 10] [0, 1, 2, 3, 4, 11, 12, 13, 14, 15] [0, 1, 2, 3, 4, 10, 11, 12, 13, 14, 15, 5, 6, 7, 8, 9] rfl rfl rfl (by decide) rfl rfl (fun H locs hP hD hS => ?_)
        refine lv_if_ne (tgt := 52) hx hb dX4_pair_46 (by decide) (fun c_1456 => ?_) (fun c_1456 => ?_)
        · have h := iq c_1456 h
          refine lv_iload_n hx hb dX4_pair_52 rfl (lv_at hl 2 rfl) ?_
          refine lv_iload_n hx hb dX4_pair_53 rfl (lv_at hl 1 rfl) ?_
          refine lv_icmp_ne (tgt := 68) hx hb dX4_pair_54 (by decide) (fun c_1457 => ?_) (fun c_1457 => ?_)
          · have h := iq c_1457 h
            refine lv_iinc (v := (x2 + 1)) (lv' := [(2, .int (x2 + 1)), (0, .ref c0), (1, .int x1), (3, .int x3), (4, .int x4)]) hx hb dX4_pair_68 hl (k := 2) rfl rfl (by decide) rfl (fun ls hl => ?_)
            refine lv_iinc (v := (x4 + 1)) (lv' := [(4, .int (x4 + 1)), (2, .int (x2 + 1)), (0, .ref c0), (1, .int x1), (3, .int x3)]) hx hb dX4_pair_71 hl (k := 4) rfl rfl (by decide) rfl (fun ls hl => ?_)
            refine lv_goto (tgt := 24) hx hb dX4_pair_74 (by decide) ?_
            exact ih _ _ _ _ _ hP hD hS (lv_sub hl [2, 3, 1, 4, 0] rfl) h
          · have h := ip c_1457 h
            exact hk_57 _ _ _ _ hP hD hS (lv_sub hl [3, 4] rfl) h
        · have h := ip c_1456 h
          refine lv_goto (tgt := 71) hx hb dX4_pair_49 (by decide) ?_
          refine lv_iinc (v := (x4 + 1)) (lv' := [(4, .int (x4 + 1)), (0, .ref c0), (1, .int x1), (2, .int x2), (3, .int x3)]) hx hb dX4_pair_71 hl (k := 4) rfl rfl (by decide) rfl (fun ls hl => ?_)
          refine lv_goto (tgt := 24) hx hb dX4_pair_74 (by decide) ?_
          exact ih _ _ _ _ _ hP hD hS (lv_sub hl [1, 2, 3, 4, 0] rfl) h
  have w_8 : ∀ (k_57 : Int32 → Int32 → Option (String ⊕ (Int32))) (x1 : Int32)  (_z : Unit), (∀ (y3 : Int32) (y4 : Int32) (H : Heap) (locs : List Loc) (ls : Array Slot), va_P G.1 vwCl (w_C G c0 l0 l1 l2 l3 m0 m1 m2 m3 m4 m5 r0 r1 r2 r3 g0 g_e l_a l_b l_c l_n m_x m_y m_d m_t m_v m_n r_s r_n r_w r_k) H → va_D A (w_C G c0 l0 l1 l2 l3 m0 m1 m2 m3 m4 m5 r0 r1 r2 r3 g0 g_e l_a l_b l_c l_n m_x m_y m_d m_t m_v m_n r_s r_n r_w r_k) → va_S A s.heap H locs → lv_has ls 5 [(3, .int y3), (4, .int y4)] → k_57 y3 y4 = some v → W p l e ({ frames := 7, cells := 4, slots := 24, locals := 120 } : Room) s m args below meth c H locs 3 18 (wQxi G A below args s (w_C G c0 l0 l1 l2 l3 m0 m1 m2 m3 m4 m5 r0 r1 r2 r3 g0 g_e l_a l_b l_c l_n m_x m_y m_d m_t m_v m_n r_s r_n r_w r_k) v (fun t : Int32 => (w_C G c0 l0 l1 l2 l3 m0 m1 m2 m3 m4 m5 r0 r1 r2 r3 g0 g_e l_a l_b l_c l_n m_x m_y m_d m_t m_v m_n r_s r_n r_w r_k)) (fun t : Int32 => t) 4 24) (F0 m 57 ls [])) → ∀ (n : Nat) (x2 : Int32) (x3 : Int32)  (H : Heap) (locs : List Loc) (ls : Array Slot), va_P G.1 vwCl (w_C G c0 l0 l1 l2 l3 m0 m1 m2 m3 m4 m5 r0 r1 r2 r3 g0 g_e l_a l_b l_c l_n m_x m_y m_d m_t m_v m_n r_s r_n r_w r_k) H → va_D A (w_C G c0 l0 l1 l2 l3 m0 m1 m2 m3 m4 m5 r0 r1 r2 r3 g0 g_e l_a l_b l_c l_n m_x m_y m_d m_t m_v m_n r_s r_n r_w r_k) → va_S A s.heap H locs → lv_has ls 5 [(0, .ref c0), (1, .int x1), (2, .int x2), (3, .int x3)] → fX4_pair_b8 N l_n m_t m_n x1 k_57 n x2 x3 = some v → W p l e ({ frames := 7, cells := 4, slots := 24, locals := 120 } : Room) s m args below meth c H locs 3 18 (wQxi G A below args s (w_C G c0 l0 l1 l2 l3 m0 m1 m2 m3 m4 m5 r0 r1 r2 r3 g0 g_e l_a l_b l_c l_n m_x m_y m_d m_t m_v m_n r_s r_n r_w r_k) v (fun t : Int32 => (w_C G c0 l0 l1 l2 l3 m0 m1 m2 m3 m4 m5 r0 r1 r2 r3 g0 g_e l_a l_b l_c l_n m_x m_y m_d m_t m_v m_n r_s r_n r_w r_k)) (fun t : Int32 => t) 4 24) (F0 m 8 ls []) := by
    intro k_57 x1 _z hk_57 n
    induction n with
    | zero =>
      intro x2 x3 H locs ls hP hD hS hl h
      rw [fX4_pair_b8.eq_1] at h
      cases h
    | succ n ih =>
      intro x2 x3 H locs ls hP hD hS hl h
      rw [fX4_pair_b8.eq_2] at h
      refine lv_iload_n hx hb dX4_pair_8 rfl (lv_at hl 3 rfl) ?_
      refine lv_aload_n hx hb dX4_pair_9 rfl (lv_at hl 0 rfl) ?_
      refine va_get (D := G.1) (ci := 4) (v := .ref l0) (C := RX4) (T := TX4) (N := 4) hx hb hts hinX4 hown hK.1 hP 0 rfl rfl 0 (by decide) lk10 (fun _ h9 => h9) rfl dX4_pair_10 ?_
      obtain ⟨u_1458, hc_1459, h⟩ := bd_inv h
      refine wafter_i (wr := [(c0, .inr (4, [.ref l0, .ref m0, .ref r0, .ref g0])), (m0, .inr (2, [.ref m1, .ref m2, .ref m3, .ref m4, .ref m5, .int m_n])), (m1, .inl (G.2.1, 36, .inl m_x)), (m2, .inl (G.2.1, 36, .inl m_y)), (m3, .inl (G.2.1, 36, .inl m_d)), (m4, .inl (G.2.1, 36, .inl m_t)), (m5, .inl (G.2.1, 36, .inl m_v)), (r0, .inr (3, [.ref r1, .ref r2, .ref r3, .int r_k])), (r1, .inl (G.2.1, 46, .inl r_s)), (r2, .inl (G.2.1, 512, .inl r_n)), (r3, .inl (G.2.1, 512, .inl r_w)), (g0, .inr (0, [.long g_e]))]) (w2 := (w_C G c0 l0 l1 l2 l3 m0 m1 m2 m3 m4 m5 r0 r1 r2 r3 g0 g_e l_a l_b l_c l_n m_x m_y m_d m_t m_v m_n r_s r_n r_w r_k)) (va_runV (As := []) (rest := [.int x3]) ⟨hx, hb, hml, hown, hts⟩ (kX1_count (l := l) (G := G) l0 l1 l2 l3 l_a l_b l_c l_n  N u_1458 hc_1459 _) (cwV 0 hts gX4_pair_X1_count rfl rfl rfl (by decide +kernel) ⟨Nat.le_of_ble_eq_true rfl, Nat.le_of_ble_eq_true rfl⟩) (wPreV hP hD hK [1, 2, 3, 4] rfl rfl (ci := 1) (qb := 1) rfl rfl rfl) rfl rfl hl.1 rfl (lv_room (Nat.le_of_ble_eq_true rfl)) dX4_pair_13 ⟨Nat.le_of_ble_eq_true rfl, Nat.le_of_ble_eq_true rfl⟩) hP hD hS hA [1, 2, 3, 4] [0, 5, 6, 7, 8, 9, 10, 11, 12, 13, 14, 15] [0, 12, 13, 14, 15, 1, 2, 3, 4, 5, 6, 7, 8, 9, 10, 11] rfl rfl rfl (by decide) rfl rfl (fun H locs hP hD hS => ?_)
      refine lv_icmp_ge (tgt := 83) hx hb dX4_pair_16 (by decide) (fun c_1460 => ?_) (fun c_1460 => ?_)
      · have h := ip c_1460 h
        refine lv_iconst (v := (-1)) hx hb dX4_pair_83 (by decide) ?_
        obtain rfl := Option.some.inj h
        exact wrxi (ty := .int) (t0 := ((-1))) hx hb hr hlocks hP hD hS (Nat.le_of_ble_eq_true rfl) (Nat.le_of_ble_eq_true rfl) rfl rfl dX4_pair_84
      · have h := iq c_1460 h
        refine lv_iload_n hx hb dX4_pair_19 rfl (lv_at hl 3 rfl) ?_
        refine lv_iconst (v := 1) hx hb dX4_pair_20 (by decide) ?_
        refine lv_iadd hx hb dX4_pair_21 ?_
        refine lv_istore (lv' := [(4, .int (x3 + 1)), (0, .ref c0), (1, .int x1), (2, .int x2), (3, .int x3)]) hx hb dX4_pair_22 hl (by decide) rfl (fun ls hl => ?_)
        refine w_24 _ _ _ _  () (fun x4_1461 H locs ls hP hD hS hl h => ?_) (fun x2_1462 H locs ls hP hD hS hl h => ?_) N _ _  _ _ _ hP hD hS (lv_sub hl [1, 2, 3, 4, 0] rfl) h
        · exact hk_57 _ _ _ _ _ hP hD hS (lv_sub hl [0, 1] rfl) h
        · refine lv_iinc (v := (x3 + 1)) (lv' := [(3, .int (x3 + 1)), (0, .ref c0), (1, .int x1), (2, .int x2_1462)]) hx hb dX4_pair_77 hl (k := 3) rfl rfl (by decide) rfl (fun ls hl => ?_)
          refine lv_goto (tgt := 8) hx hb dX4_pair_80 (by decide) ?_
          exact ih _ _ _ _ _ hP hD hS (lv_sub hl [1, 2, 3, 0] rfl) h
  rw [fX4_pair.eq_1] at h
  refine lv_iload_n hx hb dX4_pair_0 rfl (lv_at hl 1 rfl) ?_
  obtain ⟨x_u_1463, hc_1464, hx_u_1463, h⟩ := bdx_inv h
  refine wafterx_v (wr := (w_C G c0 l0 l1 l2 l3 m0 m1 m2 m3 m4 m5 r0 r1 r2 r3 g0 g_e l_a l_b l_c l_n m_x m_y m_d m_t m_v m_n r_s r_n r_w r_k)) (vx_runS (As := [.int x1]) (rest := []) ⟨hx, hb, hml, hown, hts⟩ (kX4_checkPlace (l := l) hst (G := G)   x1 N x_u_1463 hc_1464 _) (va_cwS 1 hts gX4_pair_X4_checkPlace rfl rfl rfl (by decide +kernel) ⟨Nat.le_of_ble_eq_true rfl, Nat.le_of_ble_eq_true rfl⟩) (wPreSX hP hD hK hS hA hT [] rfl rfl) rfl rfl hl.1 rfl (lv_room (Nat.le_of_ble_eq_true rfl)) dX4_pair_1 ⟨(Nat.le_of_ble_eq_true rfl), (Nat.le_of_ble_eq_true rfl)⟩) hP hD hS hA [] [0, 1, 2, 3, 4, 5, 6, 7, 8, 9, 10, 11, 12, 13, 14, 15] [0, 1, 2, 3, 4, 5, 6, 7, 8, 9, 10, 11, 12, 13, 14, 15] rfl rfl rfl (by decide) rfl rfl (fun E ce q9 H locs he hP hD hS hce hcv hcl => wpass_i hnoh hlocks hP hD hS hce hcv hcl (hx_u_1463 E he) (Nat.le_of_ble_eq_true rfl) (Nat.le_of_ble_eq_true rfl)) (fun u_1463 H locs hu hP hD hS => ?_)
  have h := h u_1463 hu
  have hP : va_P G.1 vwCl (w_C G c0 l0 l1 l2 l3 m0 m1 m2 m3 m4 m5 r0 r1 r2 r3 g0 g_e l_a l_b l_c l_n m_x m_y m_d m_t m_v m_n r_s r_n r_w r_k) H := hP.sub [0, 1, 2, 3, 4, 5, 6, 7, 8, 9, 10, 11, 12, 13, 14, 15] rfl
  have hD : va_D A (w_C G c0 l0 l1 l2 l3 m0 m1 m2 m3 m4 m5 r0 r1 r2 r3 g0 g_e l_a l_b l_c l_n m_x m_y m_d m_t m_v m_n r_s r_n r_w r_k) := hD.sub [0, 1, 2, 3, 4, 5, 6, 7, 8, 9, 10, 11, 12, 13, 14, 15] rfl rfl
  refine lv_iconst (v := 0) hx hb dX4_pair_4 (by decide) ?_
  refine lv_istore_n (lv' := [(2, .int 0), (0, .ref c0), (1, .int x1)]) hx hb dX4_pair_5 rfl hl (by decide) rfl (fun ls hl => ?_)
  refine lv_iconst (v := 0) hx hb dX4_pair_6 (by decide) ?_
  refine lv_istore_n (lv' := [(3, .int 0), (2, .int 0), (0, .ref c0), (1, .int x1)]) hx hb dX4_pair_7 rfl hl (by decide) rfl (fun ls hl => ?_)
  refine W.widen (k := 3) (n := 18) (Nat.le_of_ble_eq_true rfl) (Nat.le_of_ble_eq_true rfl) ?_
  refine w_8 _ _  () (fun x3_1465 x4_1466 H locs ls hP hD hS hl h => ?_) N _ _  _ _ _ hP hD hS (lv_sub hl [2, 3, 1, 0] rfl) h
  refine lv_iload_n hx hb dX4_pair_57 rfl (lv_at hl 0 rfl) ?_
  obtain ⟨u_1467, hc_1468, h⟩ := bd_inv h
  refine wafter_i (wr := (w_C G c0 l0 l1 l2 l3 m0 m1 m2 m3 m4 m5 r0 r1 r2 r3 g0 g_e l_a l_b l_c l_n m_x m_y m_d m_t m_v m_n r_s r_n r_w r_k)) (w2 := (w_C G c0 l0 l1 l2 l3 m0 m1 m2 m3 m4 m5 r0 r1 r2 r3 g0 g_e l_a l_b l_c l_n m_x m_y m_d m_t m_v m_n r_s r_n r_w r_k)) (va_runS (As := [.int x3_1465]) (rest := []) ⟨hx, hb, hml, hown, hts⟩ (kX4_bit (l := l) (G := G)   x3_1465 N u_1467 hc_1468 _) (va_cwS 1 hts gX4_pair_X4_bit rfl rfl rfl (by decide +kernel) ⟨Nat.le_of_ble_eq_true rfl, Nat.le_of_ble_eq_true rfl⟩) (wPreS hP hD hK [] rfl rfl) rfl rfl hl.1 rfl (lv_room (Nat.le_of_ble_eq_true rfl)) dX4_pair_58 ⟨Nat.le_of_ble_eq_true rfl, Nat.le_of_ble_eq_true rfl⟩) hP hD hS hA [] [0, 1, 2, 3, 4, 5, 6, 7, 8, 9, 10, 11, 12, 13, 14, 15] [0, 1, 2, 3, 4, 5, 6, 7, 8, 9, 10, 11, 12, 13, 14, 15] rfl rfl rfl (by decide) rfl rfl (fun H locs hP hD hS => ?_)
  refine lv_iload hx hb dX4_pair_61 (lv_at hl 1 rfl) ?_
  obtain ⟨u_1469, hc_1470, h⟩ := bd_inv h
  refine wafter_i (wr := (w_C G c0 l0 l1 l2 l3 m0 m1 m2 m3 m4 m5 r0 r1 r2 r3 g0 g_e l_a l_b l_c l_n m_x m_y m_d m_t m_v m_n r_s r_n r_w r_k)) (w2 := (w_C G c0 l0 l1 l2 l3 m0 m1 m2 m3 m4 m5 r0 r1 r2 r3 g0 g_e l_a l_b l_c l_n m_x m_y m_d m_t m_v m_n r_s r_n r_w r_k)) (va_runS (As := [.int x4_1466]) (rest := [.int u_1467]) ⟨hx, hb, hml, hown, hts⟩ (kX4_bit (l := l) (G := G)   x4_1466 N u_1469 hc_1470 _) (va_cwS 1 hts gX4_pair_X4_bit rfl rfl rfl (by decide +kernel) ⟨Nat.le_of_ble_eq_true rfl, Nat.le_of_ble_eq_true rfl⟩) (wPreS hP hD hK [] rfl rfl) rfl rfl hl.1 rfl (lv_room (Nat.le_of_ble_eq_true rfl)) dX4_pair_63 ⟨Nat.le_of_ble_eq_true rfl, Nat.le_of_ble_eq_true rfl⟩) hP hD hS hA [] [0, 1, 2, 3, 4, 5, 6, 7, 8, 9, 10, 11, 12, 13, 14, 15] [0, 1, 2, 3, 4, 5, 6, 7, 8, 9, 10, 11, 12, 13, 14, 15] rfl rfl rfl (by decide) rfl rfl (fun H locs hP hD hS => ?_)
  refine lv_ior hx hb dX4_pair_66 ?_
  obtain rfl := Option.some.inj h
  exact wrxi (ty := .int) (t0 := ((u_1467 ||| u_1469))) hx hb hr hlocks hP hD hS (Nat.le_of_ble_eq_true rfl) (Nat.le_of_ble_eq_true rfl) rfl rfl dX4_pair_67
def fX4_isDot (N : Nat) (x0 : Int32) : Option (Int32) := if x0 < 0 then zo 0 (some 0) else if 6 ≤ x0 then zo 0 (some 0) else zo 1 (some 1)
set_option maxHeartbeats 4000000 in
set_option maxRecDepth 100000 in
theorem kX4_isDot {l : Launch} {G : wG} (x0 : Int32) (N : Nat) (v : Int32) (h : fX4_isDot N x0 = some v) : wCi l G yX4_isDot wsX4_isDot ({ frames := 0, cells := 0, slots := 0, locals := 0 } : Room) [.int x0] [] [] 0 0 v := by
  refine wCi.mk (cc := cX4_isDot) (maxL := 1) (ty := .boolean) (by decide) rfl (Nat.le_of_ble_eq_true rfl) ?_
  intro p e s m below meth c A ls hx hb hml hr hlocks hts hown hK hA hP hD hl
  have hx : p.tables.exec = Jvm.exec := hx
  have hown : s.vm.findClass RX4 = some m.cls := hown
  have hS : va_S A s.heap s.heap [] := va_S.rf
  have hP : va_P G.1 vwCl [] s.heap := hP
  have hD : va_D A [] := hD
  have hl : lv_has ls 1 [(0, .int x0)] := hl
  obtain ⟨args, hargs⟩ : ∃ z : Array Value, z = ([.int x0] : List Value).toArray := ⟨_, rfl⟩
  rw [← hargs]
  rw [← hargs] at hts
  rw [fX4_isDot.eq_1] at h
  refine lv_iload_n hx hb dX4_isDot_0 rfl (lv_at hl 0 rfl) ?_
  refine lv_if_lt (tgt := 14) hx hb dX4_isDot_1 (by decide) (fun c_1471 => ?_) (fun c_1471 => ?_)
  · have h := ip c_1471 h
    refine lv_iconst (v := 0) hx hb dX4_isDot_14 (by decide) ?_
    obtain ⟨hz, h⟩ := zo_inv h
    obtain rfl := Option.some.inj h
    exact wrz hx hb hr hlocks hP hD hS (Nat.le_of_ble_eq_true rfl) (Nat.le_of_ble_eq_true rfl) hz rfl dX4_isDot_15
  · have h := iq c_1471 h
    refine lv_iload_n hx hb dX4_isDot_4 rfl (lv_at hl 0 rfl) ?_
    refine lv_bipush (v := 6) hx hb dX4_isDot_5 (by decide) ?_
    refine lv_icmp_ge (tgt := 14) hx hb dX4_isDot_7 (by decide) (fun c_1472 => ?_) (fun c_1472 => ?_)
    · have h := ip c_1472 h
      refine lv_iconst (v := 0) hx hb dX4_isDot_14 (by decide) ?_
      obtain ⟨hz, h⟩ := zo_inv h
      obtain rfl := Option.some.inj h
      exact wrz hx hb hr hlocks hP hD hS (Nat.le_of_ble_eq_true rfl) (Nat.le_of_ble_eq_true rfl) hz rfl dX4_isDot_15
    · have h := iq c_1472 h
      refine lv_iconst (v := 1) hx hb dX4_isDot_10 (by decide) ?_
      refine lv_goto (tgt := 15) hx hb dX4_isDot_11 (by decide) ?_
      obtain ⟨hz, h⟩ := zo_inv h
      obtain rfl := Option.some.inj h
      exact wrz hx hb hr hlocks hP hD hS (Nat.le_of_ble_eq_true rfl) (Nat.le_of_ble_eq_true rfl) hz rfl dX4_isDot_15
def fX4_edge (N : Nat) (g_e : Int64) (x1 : Int32) (x2 : Int32) : Option (String ⊕ (Int32 × Int64)) := bd (fX4_isDot N x1) (fun u_1473 => if u_1473 = 0 then some (.inl xIOO) else bd (fX4_isDot N x2) (fun u_1476 => if u_1476 = 0 then some (.inl xIOO) else if x1 = x2 then some (.inl xIAE) else bd (fX0_turn N g_e x1 x2) (fun u_1480 => bd (fX0_count N u_1480) (fun u_1482 => some (.inr (u_1482, u_1480))))))
set_option maxHeartbeats 4000000 in
set_option maxRecDepth 100000 in
theorem kX4_edge {l : Launch} (hst : l.stackTraces = false) {G : wG} (c0 l0 l1 l2 l3 m0 m1 m2 m3 m4 m5 r0 r1 r2 r3 g0 : Nat) (g_e : Int64) (l_a : Nat → Int32) (l_b : Nat → Int32) (l_c : Nat → Int32) (l_n : Int32) (m_x : Nat → Int32) (m_y : Nat → Int32) (m_d : Nat → Int32) (m_t : Nat → Int32) (m_v : Nat → Int32) (m_n : Int32) (r_s : Nat → Int32) (r_n : Nat → Int32) (r_w : Nat → Int32) (r_k : Int32) (x1 : Int32) (x2 : Int32) (N : Nat) (v : String ⊕ (Int32 × Int64)) (h : fX4_edge N g_e x1 x2 = some v) : wXi l G yX4_edge wsX4_edge ({ frames := 6, cells := 4, slots := 24, locals := 100 } : Room) [.ref c0, .int x1, .int x2] (w_C G c0 l0 l1 l2 l3 m0 m1 m2 m3 m4 m5 r0 r1 r2 r3 g0 g_e l_a l_b l_c l_n m_x m_y m_d m_t m_v m_n r_s r_n r_w r_k) v (fun t : Int32 × Int64 => (w_C G c0 l0 l1 l2 l3 m0 m1 m2 m3 m4 m5 r0 r1 r2 r3 g0 t.2 l_a l_b l_c l_n m_x m_y m_d m_t m_v m_n r_s r_n r_w r_k)) (fun t : Int32 × Int64 => t.1) 4 24 := by
  refine wXi.mk (cc := cX4_edge) (maxL := 3) (ty := .int) (by decide) rfl (Nat.le_of_ble_eq_true rfl) ?_
  intro p e s m below meth c A ls hx hb hml hr hlocks hts hown hK hA hP hD hT hnoh hl
  have hx : p.tables.exec = Jvm.exec := hx
  have hown : s.vm.findClass RX4 = some m.cls := hown
  have hinX4 : ∀ w ∈ wsX40, w ∈ wsX4_edge := by decide +kernel
  have lk33 := hts (.fieldLink RX4 33 "Chamberwright" "graph" "LChamberwright$Graph;") (by decide +kernel)
  have lxIAE := hts (.classLink RX4 41 xIAE) (by decide +kernel)
  have iniIAE := hts (.initialized xIAE) (by decide +kernel)
  have gwIAE : ∀ w ∈ (vx_atS RX4 45 xIAE xNms).filter goodWord, w.before _ s = true := fun w hw => hts w ((by decide +kernel : ∀ w ∈ (vx_atS RX4 45 xIAE xNms).filter goodWord, w ∈ wsX4_edge) w hw)
  have lxIOO := hts (.classLink RX4 178 xIOO) (by decide +kernel)
  have iniIOO := hts (.initialized xIOO) (by decide +kernel)
  have gwIOO : ∀ w ∈ (vx_atS RX4 182 xIOO xNms).filter goodWord, w.before _ s = true := fun w hw => hts w ((by decide +kernel : ∀ w ∈ (vx_atS RX4 182 xIOO xNms).filter goodWord, w ∈ wsX4_edge) w hw)
  have hS : va_S A s.heap s.heap [] := va_S.rf
  have hP : va_P G.1 vwCl (w_C G c0 l0 l1 l2 l3 m0 m1 m2 m3 m4 m5 r0 r1 r2 r3 g0 g_e l_a l_b l_c l_n m_x m_y m_d m_t m_v m_n r_s r_n r_w r_k) s.heap := hP
  have hD : va_D A (w_C G c0 l0 l1 l2 l3 m0 m1 m2 m3 m4 m5 r0 r1 r2 r3 g0 g_e l_a l_b l_c l_n m_x m_y m_d m_t m_v m_n r_s r_n r_w r_k) := hD
  have hl : lv_has ls 3 [(0, .ref c0), (1, .int x1), (2, .int x2)] := hl
  obtain ⟨args, hargs⟩ : ∃ z : Array Value, z = ([.ref c0, .int x1, .int x2] : List Value).toArray := ⟨_, rfl⟩
  rw [← hargs]
  rw [← hargs] at hts
  rw [← hargs] at lxIAE iniIAE gwIAE
  rw [← hargs] at lxIOO iniIOO gwIOO
  rw [fX4_edge.eq_1] at h
  refine lv_iload_n hx hb dX4_edge_0 rfl (lv_at hl 1 rfl) ?_
  obtain ⟨u_1473, hc_1474, h⟩ := bd_inv h
  refine wafter_i (wr := (w_C G c0 l0 l1 l2 l3 m0 m1 m2 m3 m4 m5 r0 r1 r2 r3 g0 g_e l_a l_b l_c l_n m_x m_y m_d m_t m_v m_n r_s r_n r_w r_k)) (w2 := (w_C G c0 l0 l1 l2 l3 m0 m1 m2 m3 m4 m5 r0 r1 r2 r3 g0 g_e l_a l_b l_c l_n m_x m_y m_d m_t m_v m_n r_s r_n r_w r_k)) (va_runS (As := [.int x1]) (rest := []) ⟨hx, hb, hml, hown, hts⟩ (kX4_isDot (l := l) (G := G)   x1 N u_1473 hc_1474 _) (va_cwS 1 hts gX4_edge_X4_isDot rfl rfl rfl (by decide +kernel) ⟨Nat.le_of_ble_eq_true rfl, Nat.le_of_ble_eq_true rfl⟩) (wPreS hP hD hK [] rfl rfl) rfl rfl hl.1 rfl (lv_room (Nat.le_of_ble_eq_true rfl)) dX4_edge_1 ⟨Nat.le_of_ble_eq_true rfl, Nat.le_of_ble_eq_true rfl⟩) hP hD hS hA [] [0, 1, 2, 3, 4, 5, 6, 7, 8, 9, 10, 11, 12, 13, 14, 15] [0, 1, 2, 3, 4, 5, 6, 7, 8, 9, 10, 11, 12, 13, 14, 15] rfl rfl rfl (by decide) rfl rfl (fun H locs hP hD hS => ?_)
  refine lv_if_eq (tgt := 14) hx hb dX4_edge_4 (by decide) (fun c_1475 => ?_) (fun c_1475 => ?_)
  · have h := ip c_1475 h
    obtain rfl := Option.some.inj h
    exact wthrow_i (cls := xIOO) (text := "a DOT is 0 to 5") hx hb hst hown (by decide +kernel) lxIOO iniIOO hT (by decide +kernel) gwIOO xng_IOO xot_IOO hP hD hS (hl.1.trans hml.symm) dX4_edge_14 dX4_edge_17 dX4_edge_18 dX4_edge_20 dX4_edge_23 hnoh hlocks (Nat.le_of_ble_eq_true rfl) (Nat.le_of_ble_eq_true rfl) (Nat.le_of_ble_eq_true rfl) (Nat.le_of_ble_eq_true rfl) (Nat.le_of_ble_eq_true rfl) (Nat.le_of_ble_eq_true rfl) rfl
  · have h := iq c_1475 h
    refine lv_iload_n hx hb dX4_edge_7 rfl (lv_at hl 2 rfl) ?_
    obtain ⟨u_1476, hc_1477, h⟩ := bd_inv h
    refine wafter_i (wr := (w_C G c0 l0 l1 l2 l3 m0 m1 m2 m3 m4 m5 r0 r1 r2 r3 g0 g_e l_a l_b l_c l_n m_x m_y m_d m_t m_v m_n r_s r_n r_w r_k)) (w2 := (w_C G c0 l0 l1 l2 l3 m0 m1 m2 m3 m4 m5 r0 r1 r2 r3 g0 g_e l_a l_b l_c l_n m_x m_y m_d m_t m_v m_n r_s r_n r_w r_k)) (va_runS (As := [.int x2]) (rest := []) ⟨hx, hb, hml, hown, hts⟩ (kX4_isDot (l := l) (G := G)   x2 N u_1476 hc_1477 _) (va_cwS 1 hts gX4_edge_X4_isDot rfl rfl rfl (by decide +kernel) ⟨Nat.le_of_ble_eq_true rfl, Nat.le_of_ble_eq_true rfl⟩) (wPreS hP hD hK [] rfl rfl) rfl rfl hl.1 rfl (lv_room (Nat.le_of_ble_eq_true rfl)) dX4_edge_8 ⟨Nat.le_of_ble_eq_true rfl, Nat.le_of_ble_eq_true rfl⟩) hP hD hS hA [] [0, 1, 2, 3, 4, 5, 6, 7, 8, 9, 10, 11, 12, 13, 14, 15] [0, 1, 2, 3, 4, 5, 6, 7, 8, 9, 10, 11, 12, 13, 14, 15] rfl rfl rfl (by decide) rfl rfl (fun H locs hP hD hS => ?_)
    refine lv_if_ne (tgt := 24) hx hb dX4_edge_11 (by decide) (fun c_1478 => ?_) (fun c_1478 => ?_)
    · have h := iq c_1478 h
      refine lv_iload_n hx hb dX4_edge_24 rfl (lv_at hl 1 rfl) ?_
      refine lv_iload_n hx hb dX4_edge_25 rfl (lv_at hl 2 rfl) ?_
      refine lv_icmp_ne (tgt := 39) hx hb dX4_edge_26 (by decide) (fun c_1479 => ?_) (fun c_1479 => ?_)
      · have h := iq c_1479 h
        refine lv_aload_n hx hb dX4_edge_39 rfl (lv_at hl 0 rfl) ?_
        refine va_get (D := G.1) (ci := 4) (v := .ref g0) (C := RX4) (T := TX4) (N := 4) hx hb hts hinX4 hown hK.1 hP 0 rfl rfl 3 (by decide) lk33 (fun _ h9 => h9) rfl dX4_edge_40 ?_
        refine lv_iload_n hx hb dX4_edge_43 rfl (lv_at hl 1 rfl) ?_
        refine lv_iload_n hx hb dX4_edge_44 rfl (lv_at hl 2 rfl) ?_
        obtain ⟨u_1480, hc_1481, h⟩ := bd_inv h
        refine wafter_v (wr := [(c0, .inr (4, [.ref l0, .ref m0, .ref r0, .ref g0])), (l0, .inr (1, [.ref l1, .ref l2, .ref l3, .int l_n])), (l1, .inl (G.2.1, 9, .inl l_a)), (l2, .inl (G.2.1, 9, .inl l_b)), (l3, .inl (G.2.1, 9, .inl l_c)), (m0, .inr (2, [.ref m1, .ref m2, .ref m3, .ref m4, .ref m5, .int m_n])), (m1, .inl (G.2.1, 36, .inl m_x)), (m2, .inl (G.2.1, 36, .inl m_y)), (m3, .inl (G.2.1, 36, .inl m_d)), (m4, .inl (G.2.1, 36, .inl m_t)), (m5, .inl (G.2.1, 36, .inl m_v)), (r0, .inr (3, [.ref r1, .ref r2, .ref r3, .int r_k])), (r1, .inl (G.2.1, 46, .inl r_s)), (r2, .inl (G.2.1, 512, .inl r_n)), (r3, .inl (G.2.1, 512, .inl r_w))]) (w2 := (w_C G c0 l0 l1 l2 l3 m0 m1 m2 m3 m4 m5 r0 r1 r2 r3 g0 u_1480 l_a l_b l_c l_n m_x m_y m_d m_t m_v m_n r_s r_n r_w r_k)) (va_runV (As := [.int x1, .int x2]) (rest := []) ⟨hx, hb, hml, hown, hts⟩ (kX0_turn (l := l) (G := G) g0 g_e x1 x2 N u_1480 hc_1481 _) (cwV 2 hts gX4_edge_X0_turn rfl rfl rfl (by decide +kernel) ⟨Nat.le_of_ble_eq_true rfl, Nat.le_of_ble_eq_true rfl⟩) (wPreV hP hD hK [15] rfl rfl (ci := 0) (qb := 15) rfl rfl rfl) rfl rfl hl.1 rfl (lv_room (Nat.le_of_ble_eq_true rfl)) dX4_edge_45 ⟨Nat.le_of_ble_eq_true rfl, Nat.le_of_ble_eq_true rfl⟩) hP hD hS hA [15] [0, 1, 2, 3, 4, 5, 6, 7, 8, 9, 10, 11, 12, 13, 14] [0, 1, 2, 3, 4, 5, 6, 7, 8, 9, 10, 11, 12, 13, 14, 15] rfl rfl rfl (by decide) rfl rfl (fun H locs hP hD hS => ?_)
        refine lv_aload_n hx hb dX4_edge_48 rfl (lv_at hl 0 rfl) ?_
        refine va_get (D := G.1) (ci := 4) (v := .ref g0) (C := RX4) (T := TX4) (N := 4) hx hb hts hinX4 hown hK.1 hP 0 rfl rfl 3 (by decide) lk33 (fun _ h9 => h9) rfl dX4_edge_49 ?_
        obtain ⟨u_1482, hc_1483, h⟩ := bd_inv h
        refine wafter_i (wr := [(c0, .inr (4, [.ref l0, .ref m0, .ref r0, .ref g0])), (l0, .inr (1, [.ref l1, .ref l2, .ref l3, .int l_n])), (l1, .inl (G.2.1, 9, .inl l_a)), (l2, .inl (G.2.1, 9, .inl l_b)), (l3, .inl (G.2.1, 9, .inl l_c)), (m0, .inr (2, [.ref m1, .ref m2, .ref m3, .ref m4, .ref m5, .int m_n])), (m1, .inl (G.2.1, 36, .inl m_x)), (m2, .inl (G.2.1, 36, .inl m_y)), (m3, .inl (G.2.1, 36, .inl m_d)), (m4, .inl (G.2.1, 36, .inl m_t)), (m5, .inl (G.2.1, 36, .inl m_v)), (r0, .inr (3, [.ref r1, .ref r2, .ref r3, .int r_k])), (r1, .inl (G.2.1, 46, .inl r_s)), (r2, .inl (G.2.1, 512, .inl r_n)), (r3, .inl (G.2.1, 512, .inl r_w))]) (w2 := (w_C G c0 l0 l1 l2 l3 m0 m1 m2 m3 m4 m5 r0 r1 r2 r3 g0 u_1480 l_a l_b l_c l_n m_x m_y m_d m_t m_v m_n r_s r_n r_w r_k)) (va_runV (As := []) (rest := []) ⟨hx, hb, hml, hown, hts⟩ (kX0_count (l := l) (G := G) g0 u_1480  N u_1482 hc_1483 _) (cwV 0 hts gX4_edge_X0_count rfl rfl rfl (by decide +kernel) ⟨Nat.le_of_ble_eq_true rfl, Nat.le_of_ble_eq_true rfl⟩) (wPreV hP hD hK [15] rfl rfl (ci := 0) (qb := 15) rfl rfl rfl) rfl rfl hl.1 rfl (lv_room (Nat.le_of_ble_eq_true rfl)) dX4_edge_52 ⟨Nat.le_of_ble_eq_true rfl, Nat.le_of_ble_eq_true rfl⟩) hP hD hS hA [15] [0, 1, 2, 3, 4, 5, 6, 7, 8, 9, 10, 11, 12, 13, 14] [0, 1, 2, 3, 4, 5, 6, 7, 8, 9, 10, 11, 12, 13, 14, 15] rfl rfl rfl (by decide) rfl rfl (fun H locs hP hD hS => ?_)
        obtain rfl := Option.some.inj h
        exact wrxi (ty := .int) (t0 := (u_1482, u_1480)) hx hb hr hlocks hP hD hS (Nat.le_of_ble_eq_true rfl) (Nat.le_of_ble_eq_true rfl) rfl rfl dX4_edge_55
      · have h := ip c_1479 h
        obtain rfl := Option.some.inj h
        exact wthrow_i (cls := xIAE) (text := "an EDGE is between two DOTS") hx hb hst hown (by decide +kernel) lxIAE iniIAE hT (by decide +kernel) gwIAE xng_IAE xot_IAE hP hD hS (hl.1.trans hml.symm) dX4_edge_29 dX4_edge_32 dX4_edge_33 dX4_edge_35 dX4_edge_38 hnoh hlocks (Nat.le_of_ble_eq_true rfl) (Nat.le_of_ble_eq_true rfl) (Nat.le_of_ble_eq_true rfl) (Nat.le_of_ble_eq_true rfl) (Nat.le_of_ble_eq_true rfl) (Nat.le_of_ble_eq_true rfl) rfl
    · have h := ip c_1478 h
      obtain rfl := Option.some.inj h
      exact wthrow_i (cls := xIOO) (text := "a DOT is 0 to 5") hx hb hst hown (by decide +kernel) lxIOO iniIOO hT (by decide +kernel) gwIOO xng_IOO xot_IOO hP hD hS (hl.1.trans hml.symm) dX4_edge_14 dX4_edge_17 dX4_edge_18 dX4_edge_20 dX4_edge_23 hnoh hlocks (Nat.le_of_ble_eq_true rfl) (Nat.le_of_ble_eq_true rfl) (Nat.le_of_ble_eq_true rfl) (Nat.le_of_ble_eq_true rfl) (Nat.le_of_ble_eq_true rfl) (Nat.le_of_ble_eq_true rfl) rfl
def fX4_checkColours (N : Nat) (x0 : Int32) : Option (String ⊕ (Unit)) := if x0 < 0 then some (.inl xIAE) else if x0 ≤ 6 then some (.inr ()) else some (.inl xIAE)
set_option maxHeartbeats 4000000 in
set_option maxRecDepth 100000 in
theorem kX4_checkColours {l : Launch} (hst : l.stackTraces = false) {G : wG} (x0 : Int32) (N : Nat) (v : String ⊕ (Unit)) (h : fX4_checkColours N x0 = some v) : wXv l G yX4_checkColours wsX4_checkColours ({ frames := 6, cells := 1, slots := 6, locals := 100 } : Room) [.int x0] [] v (fun t : Unit => []) 1 6 := by
  refine wXv.mk (cc := cX4_checkColours) (maxL := 1) (by decide) rfl (Nat.le_of_ble_eq_true rfl) ?_
  intro p e s m below meth c A ls hx hb hml hr hlocks hts hown hK hA hP hD hT hnoh hl
  have hx : p.tables.exec = Jvm.exec := hx
  have hown : s.vm.findClass RX4 = some m.cls := hown
  have lxIAE := hts (.classLink RX4 41 xIAE) (by decide +kernel)
  have iniIAE := hts (.initialized xIAE) (by decide +kernel)
  have gwIAE : ∀ w ∈ (vx_atS RX4 45 xIAE xNms).filter goodWord, w.before _ s = true := fun w hw => hts w ((by decide +kernel : ∀ w ∈ (vx_atS RX4 45 xIAE xNms).filter goodWord, w ∈ wsX4_checkColours) w hw)
  have hS : va_S A s.heap s.heap [] := va_S.rf
  have hP : va_P G.1 vwCl [] s.heap := hP
  have hD : va_D A [] := hD
  have hl : lv_has ls 1 [(0, .int x0)] := hl
  obtain ⟨args, hargs⟩ : ∃ z : Array Value, z = ([.int x0] : List Value).toArray := ⟨_, rfl⟩
  rw [← hargs]
  rw [← hargs] at hts
  rw [← hargs] at lxIAE iniIAE gwIAE
  rw [fX4_checkColours.eq_1] at h
  refine lv_iload_n hx hb dX4_checkColours_0 rfl (lv_at hl 0 rfl) ?_
  refine lv_if_lt (tgt := 10) hx hb dX4_checkColours_1 (by decide) (fun c_1484 => ?_) (fun c_1484 => ?_)
  · have h := ip c_1484 h
    obtain rfl := Option.some.inj h
    exact wthrow_v (cls := xIAE) (text := "colours are 0 to 6") hx hb hst hown (by decide +kernel) lxIAE iniIAE hT (by decide +kernel) gwIAE xng_IAE xot_IAE hP hD hS (hl.1.trans hml.symm) dX4_checkColours_10 dX4_checkColours_13 dX4_checkColours_14 dX4_checkColours_16 dX4_checkColours_19 hnoh hlocks (Nat.le_of_ble_eq_true rfl) (Nat.le_of_ble_eq_true rfl) (Nat.le_of_ble_eq_true rfl) (Nat.le_of_ble_eq_true rfl) (Nat.le_of_ble_eq_true rfl) (Nat.le_of_ble_eq_true rfl) rfl
  · have h := iq c_1484 h
    refine lv_iload_n hx hb dX4_checkColours_4 rfl (lv_at hl 0 rfl) ?_
    refine lv_bipush (v := 6) hx hb dX4_checkColours_5 (by decide) ?_
    refine lv_icmp_le (tgt := 20) hx hb dX4_checkColours_7 (by decide) (fun c_1485 => ?_) (fun c_1485 => ?_)
    · have h := ip c_1485 h
      obtain rfl := Option.some.inj h
      exact wrxv (t0 := ()) hx hb hr hlocks hP hD hS (Nat.le_of_ble_eq_true rfl) (Nat.le_of_ble_eq_true rfl) rfl dX4_checkColours_20
    · have h := iq c_1485 h
      obtain rfl := Option.some.inj h
      exact wthrow_v (cls := xIAE) (text := "colours are 0 to 6") hx hb hst hown (by decide +kernel) lxIAE iniIAE hT (by decide +kernel) gwIAE xng_IAE xot_IAE hP hD hS (hl.1.trans hml.symm) dX4_checkColours_10 dX4_checkColours_13 dX4_checkColours_14 dX4_checkColours_16 dX4_checkColours_19 hnoh hlocks (Nat.le_of_ble_eq_true rfl) (Nat.le_of_ble_eq_true rfl) (Nat.le_of_ble_eq_true rfl) (Nat.le_of_ble_eq_true rfl) (Nat.le_of_ble_eq_true rfl) (Nat.le_of_ble_eq_true rfl) rfl
def fX4_colourings (N : Nat) (g_e : Int64) (x1 : Int32) : Option (String ⊕ (Int32)) := bdx (fX4_checkColours N x1) (fun u_1486 => bd (fX0_tryAllColours N g_e x1) (fun u_1488 => some (.inr u_1488)))
set_option maxHeartbeats 4000000 in
set_option maxRecDepth 100000 in
theorem kX4_colourings {l : Launch} (hst : l.stackTraces = false) {G : wG} (c0 l0 l1 l2 l3 m0 m1 m2 m3 m4 m5 r0 r1 r2 r3 g0 : Nat) (g_e : Int64) (l_a : Nat → Int32) (l_b : Nat → Int32) (l_c : Nat → Int32) (l_n : Int32) (m_x : Nat → Int32) (m_y : Nat → Int32) (m_d : Nat → Int32) (m_t : Nat → Int32) (m_v : Nat → Int32) (m_n : Int32) (r_s : Nat → Int32) (r_n : Nat → Int32) (r_w : Nat → Int32) (r_k : Int32) (x1 : Int32) (N : Nat) (v : String ⊕ (Int32)) (h : fX4_colourings N g_e x1 = some v) : wXi l G yX4_colourings wsX4_colourings ({ frames := 19, cells := 4, slots := 24, locals := 519 } : Room) [.ref c0, .int x1] (w_C G c0 l0 l1 l2 l3 m0 m1 m2 m3 m4 m5 r0 r1 r2 r3 g0 g_e l_a l_b l_c l_n m_x m_y m_d m_t m_v m_n r_s r_n r_w r_k) v (fun t : Int32 => (w_C G c0 l0 l1 l2 l3 m0 m1 m2 m3 m4 m5 r0 r1 r2 r3 g0 g_e l_a l_b l_c l_n m_x m_y m_d m_t m_v m_n r_s r_n r_w r_k)) (fun t : Int32 => t) 4 24 := by
  refine wXi.mk (cc := cX4_colourings) (maxL := 2) (ty := .int) (by decide) rfl (Nat.le_of_ble_eq_true rfl) ?_
  intro p e s m below meth c A ls hx hb hml hr hlocks hts hown hK hA hP hD hT hnoh hl
  have hx : p.tables.exec = Jvm.exec := hx
  have hown : s.vm.findClass RX4 = some m.cls := hown
  have hinX4 : ∀ w ∈ wsX40, w ∈ wsX4_colourings := by decide +kernel
  have lk33 := hts (.fieldLink RX4 33 "Chamberwright" "graph" "LChamberwright$Graph;") (by decide +kernel)
  have hS : va_S A s.heap s.heap [] := va_S.rf
  have hP : va_P G.1 vwCl (w_C G c0 l0 l1 l2 l3 m0 m1 m2 m3 m4 m5 r0 r1 r2 r3 g0 g_e l_a l_b l_c l_n m_x m_y m_d m_t m_v m_n r_s r_n r_w r_k) s.heap := hP
  have hD : va_D A (w_C G c0 l0 l1 l2 l3 m0 m1 m2 m3 m4 m5 r0 r1 r2 r3 g0 g_e l_a l_b l_c l_n m_x m_y m_d m_t m_v m_n r_s r_n r_w r_k) := hD
  have hl : lv_has ls 2 [(0, .ref c0), (1, .int x1)] := hl
  obtain ⟨args, hargs⟩ : ∃ z : Array Value, z = ([.ref c0, .int x1] : List Value).toArray := ⟨_, rfl⟩
  rw [← hargs]
  rw [← hargs] at hts
  rw [fX4_colourings.eq_1] at h
  refine lv_iload_n hx hb dX4_colourings_0 rfl (lv_at hl 1 rfl) ?_
  obtain ⟨x_u_1486, hc_1487, hx_u_1486, h⟩ := bdx_inv h
  refine wafterx_v (wr := (w_C G c0 l0 l1 l2 l3 m0 m1 m2 m3 m4 m5 r0 r1 r2 r3 g0 g_e l_a l_b l_c l_n m_x m_y m_d m_t m_v m_n r_s r_n r_w r_k)) (vx_runS (As := [.int x1]) (rest := []) ⟨hx, hb, hml, hown, hts⟩ (kX4_checkColours (l := l) hst (G := G)   x1 N x_u_1486 hc_1487 _) (va_cwS 1 hts gX4_colourings_X4_checkColours rfl rfl rfl (by decide +kernel) ⟨Nat.le_of_ble_eq_true rfl, Nat.le_of_ble_eq_true rfl⟩) (wPreSX hP hD hK hS hA hT [] rfl rfl) rfl rfl hl.1 rfl (lv_room (Nat.le_of_ble_eq_true rfl)) dX4_colourings_1 ⟨(Nat.le_of_ble_eq_true rfl), (Nat.le_of_ble_eq_true rfl)⟩) hP hD hS hA [] [0, 1, 2, 3, 4, 5, 6, 7, 8, 9, 10, 11, 12, 13, 14, 15] [0, 1, 2, 3, 4, 5, 6, 7, 8, 9, 10, 11, 12, 13, 14, 15] rfl rfl rfl (by decide) rfl rfl (fun E ce q9 H locs he hP hD hS hce hcv hcl => wpass_i hnoh hlocks hP hD hS hce hcv hcl (hx_u_1486 E he) (Nat.le_of_ble_eq_true rfl) (Nat.le_of_ble_eq_true rfl)) (fun u_1486 H locs hu hP hD hS => ?_)
  have h := h u_1486 hu
  have hP : va_P G.1 vwCl (w_C G c0 l0 l1 l2 l3 m0 m1 m2 m3 m4 m5 r0 r1 r2 r3 g0 g_e l_a l_b l_c l_n m_x m_y m_d m_t m_v m_n r_s r_n r_w r_k) H := hP.sub [0, 1, 2, 3, 4, 5, 6, 7, 8, 9, 10, 11, 12, 13, 14, 15] rfl
  have hD : va_D A (w_C G c0 l0 l1 l2 l3 m0 m1 m2 m3 m4 m5 r0 r1 r2 r3 g0 g_e l_a l_b l_c l_n m_x m_y m_d m_t m_v m_n r_s r_n r_w r_k) := hD.sub [0, 1, 2, 3, 4, 5, 6, 7, 8, 9, 10, 11, 12, 13, 14, 15] rfl rfl
  refine lv_aload_n hx hb dX4_colourings_4 rfl (lv_at hl 0 rfl) ?_
  refine va_get (D := G.1) (ci := 4) (v := .ref g0) (C := RX4) (T := TX4) (N := 4) hx hb hts hinX4 hown hK.1 hP 0 rfl rfl 3 (by decide) lk33 (fun _ h9 => h9) rfl dX4_colourings_5 ?_
  refine lv_iload_n hx hb dX4_colourings_8 rfl (lv_at hl 1 rfl) ?_
  obtain ⟨u_1488, hc_1489, h⟩ := bd_inv h
  refine wafter_i (wr := [(c0, .inr (4, [.ref l0, .ref m0, .ref r0, .ref g0])), (l0, .inr (1, [.ref l1, .ref l2, .ref l3, .int l_n])), (l1, .inl (G.2.1, 9, .inl l_a)), (l2, .inl (G.2.1, 9, .inl l_b)), (l3, .inl (G.2.1, 9, .inl l_c)), (m0, .inr (2, [.ref m1, .ref m2, .ref m3, .ref m4, .ref m5, .int m_n])), (m1, .inl (G.2.1, 36, .inl m_x)), (m2, .inl (G.2.1, 36, .inl m_y)), (m3, .inl (G.2.1, 36, .inl m_d)), (m4, .inl (G.2.1, 36, .inl m_t)), (m5, .inl (G.2.1, 36, .inl m_v)), (r0, .inr (3, [.ref r1, .ref r2, .ref r3, .int r_k])), (r1, .inl (G.2.1, 46, .inl r_s)), (r2, .inl (G.2.1, 512, .inl r_n)), (r3, .inl (G.2.1, 512, .inl r_w))]) (w2 := (w_C G c0 l0 l1 l2 l3 m0 m1 m2 m3 m4 m5 r0 r1 r2 r3 g0 g_e l_a l_b l_c l_n m_x m_y m_d m_t m_v m_n r_s r_n r_w r_k)) (va_runV (As := [.int x1]) (rest := []) ⟨hx, hb, hml, hown, hts⟩ (kX0_tryAllColours (l := l) (G := G) g0 g_e x1 N u_1488 hc_1489 _) (cwV 1 hts gX4_colourings_X0_tryAllColours rfl rfl rfl (by decide +kernel) ⟨Nat.le_of_ble_eq_true rfl, Nat.le_of_ble_eq_true rfl⟩) (wPreV hP hD hK [15] rfl rfl (ci := 0) (qb := 15) rfl rfl rfl) rfl rfl hl.1 rfl (lv_room (Nat.le_of_ble_eq_true rfl)) dX4_colourings_9 ⟨Nat.le_of_ble_eq_true rfl, Nat.le_of_ble_eq_true rfl⟩) hP hD hS hA [15] [0, 1, 2, 3, 4, 5, 6, 7, 8, 9, 10, 11, 12, 13, 14] [0, 1, 2, 3, 4, 5, 6, 7, 8, 9, 10, 11, 12, 13, 14, 15] rfl rfl rfl (by decide) rfl rfl (fun H locs hP hD hS => ?_)
  obtain rfl := Option.some.inj h
  exact wrxi (ty := .int) (t0 := u_1488) hx hb hr hlocks hP hD hS (Nat.le_of_ble_eq_true rfl) (Nat.le_of_ble_eq_true rfl) rfl rfl dX4_colourings_12
def fX4_colouringsAnew (N : Nat) (g_e : Int64) (x1 : Int32) : Option (String ⊕ (Int32)) := bdx (fX4_checkColours N x1) (fun u_1490 => bd (fX0_takeApart N g_e x1) (fun u_1492 => some (.inr u_1492)))
set_option maxHeartbeats 4000000 in
set_option maxRecDepth 100000 in
theorem kX4_colouringsAnew {l : Launch} (hst : l.stackTraces = false) {G : wG} (c0 l0 l1 l2 l3 m0 m1 m2 m3 m4 m5 r0 r1 r2 r3 g0 : Nat) (g_e : Int64) (l_a : Nat → Int32) (l_b : Nat → Int32) (l_c : Nat → Int32) (l_n : Int32) (m_x : Nat → Int32) (m_y : Nat → Int32) (m_d : Nat → Int32) (m_t : Nat → Int32) (m_v : Nat → Int32) (m_n : Int32) (r_s : Nat → Int32) (r_n : Nat → Int32) (r_w : Nat → Int32) (r_k : Int32) (x1 : Int32) (N : Nat) (v : String ⊕ (Int32)) (h : fX4_colouringsAnew N g_e x1 = some v) : wXi l G yX4_colouringsAnew wsX4_colouringsAnew ({ frames := 21, cells := 4, slots := 24, locals := 565 } : Room) [.ref c0, .int x1] (w_C G c0 l0 l1 l2 l3 m0 m1 m2 m3 m4 m5 r0 r1 r2 r3 g0 g_e l_a l_b l_c l_n m_x m_y m_d m_t m_v m_n r_s r_n r_w r_k) v (fun t : Int32 => (w_C G c0 l0 l1 l2 l3 m0 m1 m2 m3 m4 m5 r0 r1 r2 r3 g0 g_e l_a l_b l_c l_n m_x m_y m_d m_t m_v m_n r_s r_n r_w r_k)) (fun t : Int32 => t) 4 24 := by
  refine wXi.mk (cc := cX4_colouringsAnew) (maxL := 2) (ty := .int) (by decide) rfl (Nat.le_of_ble_eq_true rfl) ?_
  intro p e s m below meth c A ls hx hb hml hr hlocks hts hown hK hA hP hD hT hnoh hl
  have hx : p.tables.exec = Jvm.exec := hx
  have hown : s.vm.findClass RX4 = some m.cls := hown
  have hinX4 : ∀ w ∈ wsX40, w ∈ wsX4_colouringsAnew := by decide +kernel
  have lk33 := hts (.fieldLink RX4 33 "Chamberwright" "graph" "LChamberwright$Graph;") (by decide +kernel)
  have hS : va_S A s.heap s.heap [] := va_S.rf
  have hP : va_P G.1 vwCl (w_C G c0 l0 l1 l2 l3 m0 m1 m2 m3 m4 m5 r0 r1 r2 r3 g0 g_e l_a l_b l_c l_n m_x m_y m_d m_t m_v m_n r_s r_n r_w r_k) s.heap := hP
  have hD : va_D A (w_C G c0 l0 l1 l2 l3 m0 m1 m2 m3 m4 m5 r0 r1 r2 r3 g0 g_e l_a l_b l_c l_n m_x m_y m_d m_t m_v m_n r_s r_n r_w r_k) := hD
  have hl : lv_has ls 2 [(0, .ref c0), (1, .int x1)] := hl
  obtain ⟨args, hargs⟩ : ∃ z : Array Value, z = ([.ref c0, .int x1] : List Value).toArray := ⟨_, rfl⟩
  rw [← hargs]
  rw [← hargs] at hts
  rw [fX4_colouringsAnew.eq_1] at h
  refine lv_iload_n hx hb dX4_colouringsAnew_0 rfl (lv_at hl 1 rfl) ?_
  obtain ⟨x_u_1490, hc_1491, hx_u_1490, h⟩ := bdx_inv h
  refine wafterx_v (wr := (w_C G c0 l0 l1 l2 l3 m0 m1 m2 m3 m4 m5 r0 r1 r2 r3 g0 g_e l_a l_b l_c l_n m_x m_y m_d m_t m_v m_n r_s r_n r_w r_k)) (vx_runS (As := [.int x1]) (rest := []) ⟨hx, hb, hml, hown, hts⟩ (kX4_checkColours (l := l) hst (G := G)   x1 N x_u_1490 hc_1491 _) (va_cwS 1 hts gX4_colouringsAnew_X4_checkColours rfl rfl rfl (by decide +kernel) ⟨Nat.le_of_ble_eq_true rfl, Nat.le_of_ble_eq_true rfl⟩) (wPreSX hP hD hK hS hA hT [] rfl rfl) rfl rfl hl.1 rfl (lv_room (Nat.le_of_ble_eq_true rfl)) dX4_colouringsAnew_1 ⟨(Nat.le_of_ble_eq_true rfl), (Nat.le_of_ble_eq_true rfl)⟩) hP hD hS hA [] [0, 1, 2, 3, 4, 5, 6, 7, 8, 9, 10, 11, 12, 13, 14, 15] [0, 1, 2, 3, 4, 5, 6, 7, 8, 9, 10, 11, 12, 13, 14, 15] rfl rfl rfl (by decide) rfl rfl (fun E ce q9 H locs he hP hD hS hce hcv hcl => wpass_i hnoh hlocks hP hD hS hce hcv hcl (hx_u_1490 E he) (Nat.le_of_ble_eq_true rfl) (Nat.le_of_ble_eq_true rfl)) (fun u_1490 H locs hu hP hD hS => ?_)
  have h := h u_1490 hu
  have hP : va_P G.1 vwCl (w_C G c0 l0 l1 l2 l3 m0 m1 m2 m3 m4 m5 r0 r1 r2 r3 g0 g_e l_a l_b l_c l_n m_x m_y m_d m_t m_v m_n r_s r_n r_w r_k) H := hP.sub [0, 1, 2, 3, 4, 5, 6, 7, 8, 9, 10, 11, 12, 13, 14, 15] rfl
  have hD : va_D A (w_C G c0 l0 l1 l2 l3 m0 m1 m2 m3 m4 m5 r0 r1 r2 r3 g0 g_e l_a l_b l_c l_n m_x m_y m_d m_t m_v m_n r_s r_n r_w r_k) := hD.sub [0, 1, 2, 3, 4, 5, 6, 7, 8, 9, 10, 11, 12, 13, 14, 15] rfl rfl
  refine lv_aload_n hx hb dX4_colouringsAnew_4 rfl (lv_at hl 0 rfl) ?_
  refine va_get (D := G.1) (ci := 4) (v := .ref g0) (C := RX4) (T := TX4) (N := 4) hx hb hts hinX4 hown hK.1 hP 0 rfl rfl 3 (by decide) lk33 (fun _ h9 => h9) rfl dX4_colouringsAnew_5 ?_
  refine lv_iload_n hx hb dX4_colouringsAnew_8 rfl (lv_at hl 1 rfl) ?_
  obtain ⟨u_1492, hc_1493, h⟩ := bd_inv h
  refine wafter_i (wr := [(c0, .inr (4, [.ref l0, .ref m0, .ref r0, .ref g0])), (l0, .inr (1, [.ref l1, .ref l2, .ref l3, .int l_n])), (l1, .inl (G.2.1, 9, .inl l_a)), (l2, .inl (G.2.1, 9, .inl l_b)), (l3, .inl (G.2.1, 9, .inl l_c)), (m0, .inr (2, [.ref m1, .ref m2, .ref m3, .ref m4, .ref m5, .int m_n])), (m1, .inl (G.2.1, 36, .inl m_x)), (m2, .inl (G.2.1, 36, .inl m_y)), (m3, .inl (G.2.1, 36, .inl m_d)), (m4, .inl (G.2.1, 36, .inl m_t)), (m5, .inl (G.2.1, 36, .inl m_v)), (r0, .inr (3, [.ref r1, .ref r2, .ref r3, .int r_k])), (r1, .inl (G.2.1, 46, .inl r_s)), (r2, .inl (G.2.1, 512, .inl r_n)), (r3, .inl (G.2.1, 512, .inl r_w))]) (w2 := (w_C G c0 l0 l1 l2 l3 m0 m1 m2 m3 m4 m5 r0 r1 r2 r3 g0 g_e l_a l_b l_c l_n m_x m_y m_d m_t m_v m_n r_s r_n r_w r_k)) (va_runV (As := [.int x1]) (rest := []) ⟨hx, hb, hml, hown, hts⟩ (kX0_takeApart (l := l) (G := G) g0 g_e x1 N u_1492 hc_1493 _) (cwV 1 hts gX4_colouringsAnew_X0_takeApart rfl rfl rfl (by decide +kernel) ⟨Nat.le_of_ble_eq_true rfl, Nat.le_of_ble_eq_true rfl⟩) (wPreV hP hD hK [15] rfl rfl (ci := 0) (qb := 15) rfl rfl rfl) rfl rfl hl.1 rfl (lv_room (Nat.le_of_ble_eq_true rfl)) dX4_colouringsAnew_9 ⟨Nat.le_of_ble_eq_true rfl, Nat.le_of_ble_eq_true rfl⟩) hP hD hS hA [15] [0, 1, 2, 3, 4, 5, 6, 7, 8, 9, 10, 11, 12, 13, 14] [0, 1, 2, 3, 4, 5, 6, 7, 8, 9, 10, 11, 12, 13, 14, 15] rfl rfl rfl (by decide) rfl rfl (fun H locs hP hD hS => ?_)
  obtain rfl := Option.some.inj h
  exact wrxi (ty := .int) (t0 := u_1492) hx hb hr hlocks hP hD hS (Nat.le_of_ble_eq_true rfl) (Nat.le_of_ble_eq_true rfl) rfl rfl dX4_colouringsAnew_12
def fX4_directions (N : Nat) (g_e : Int64) : Option (Int32) := bd (fX0_tryAllDirections N g_e) (fun u_1494 => some u_1494)
set_option maxHeartbeats 4000000 in
set_option maxRecDepth 100000 in
theorem kX4_directions {l : Launch} {G : wG} (c0 l0 l1 l2 l3 m0 m1 m2 m3 m4 m5 r0 r1 r2 r3 g0 : Nat) (g_e : Int64) (l_a : Nat → Int32) (l_b : Nat → Int32) (l_c : Nat → Int32) (l_n : Int32) (m_x : Nat → Int32) (m_y : Nat → Int32) (m_d : Nat → Int32) (m_t : Nat → Int32) (m_v : Nat → Int32) (m_n : Int32) (r_s : Nat → Int32) (r_n : Nat → Int32) (r_w : Nat → Int32) (r_k : Int32) (N : Nat) (v : Int32) (h : fX4_directions N g_e = some v) : wCi l G yX4_directions wsX4_directions ({ frames := 21, cells := 0, slots := 0, locals := 581 } : Room) [.ref c0] (w_C G c0 l0 l1 l2 l3 m0 m1 m2 m3 m4 m5 r0 r1 r2 r3 g0 g_e l_a l_b l_c l_n m_x m_y m_d m_t m_v m_n r_s r_n r_w r_k) (w_C G c0 l0 l1 l2 l3 m0 m1 m2 m3 m4 m5 r0 r1 r2 r3 g0 g_e l_a l_b l_c l_n m_x m_y m_d m_t m_v m_n r_s r_n r_w r_k) 0 0 v := by
  refine wCi.mk (cc := cX4_directions) (maxL := 1) (ty := .int) (by decide) rfl (Nat.le_of_ble_eq_true rfl) ?_
  intro p e s m below meth c A ls hx hb hml hr hlocks hts hown hK hA hP hD hl
  have hx : p.tables.exec = Jvm.exec := hx
  have hown : s.vm.findClass RX4 = some m.cls := hown
  have hinX4 : ∀ w ∈ wsX40, w ∈ wsX4_directions := by decide +kernel
  have lk33 := hts (.fieldLink RX4 33 "Chamberwright" "graph" "LChamberwright$Graph;") (by decide +kernel)
  have hS : va_S A s.heap s.heap [] := va_S.rf
  have hP : va_P G.1 vwCl (w_C G c0 l0 l1 l2 l3 m0 m1 m2 m3 m4 m5 r0 r1 r2 r3 g0 g_e l_a l_b l_c l_n m_x m_y m_d m_t m_v m_n r_s r_n r_w r_k) s.heap := hP
  have hD : va_D A (w_C G c0 l0 l1 l2 l3 m0 m1 m2 m3 m4 m5 r0 r1 r2 r3 g0 g_e l_a l_b l_c l_n m_x m_y m_d m_t m_v m_n r_s r_n r_w r_k) := hD
  have hl : lv_has ls 1 [(0, .ref c0)] := hl
  obtain ⟨args, hargs⟩ : ∃ z : Array Value, z = ([.ref c0] : List Value).toArray := ⟨_, rfl⟩
  rw [← hargs]
  rw [← hargs] at hts
  rw [fX4_directions.eq_1] at h
  refine lv_aload_n hx hb dX4_directions_0 rfl (lv_at hl 0 rfl) ?_
  refine va_get (D := G.1) (ci := 4) (v := .ref g0) (C := RX4) (T := TX4) (N := 4) hx hb hts hinX4 hown hK.1 hP 0 rfl rfl 3 (by decide) lk33 (fun _ h9 => h9) rfl dX4_directions_1 ?_
  obtain ⟨u_1494, hc_1495, h⟩ := bd_inv h
  refine wafter_i (wr := [(c0, .inr (4, [.ref l0, .ref m0, .ref r0, .ref g0])), (l0, .inr (1, [.ref l1, .ref l2, .ref l3, .int l_n])), (l1, .inl (G.2.1, 9, .inl l_a)), (l2, .inl (G.2.1, 9, .inl l_b)), (l3, .inl (G.2.1, 9, .inl l_c)), (m0, .inr (2, [.ref m1, .ref m2, .ref m3, .ref m4, .ref m5, .int m_n])), (m1, .inl (G.2.1, 36, .inl m_x)), (m2, .inl (G.2.1, 36, .inl m_y)), (m3, .inl (G.2.1, 36, .inl m_d)), (m4, .inl (G.2.1, 36, .inl m_t)), (m5, .inl (G.2.1, 36, .inl m_v)), (r0, .inr (3, [.ref r1, .ref r2, .ref r3, .int r_k])), (r1, .inl (G.2.1, 46, .inl r_s)), (r2, .inl (G.2.1, 512, .inl r_n)), (r3, .inl (G.2.1, 512, .inl r_w))]) (w2 := (w_C G c0 l0 l1 l2 l3 m0 m1 m2 m3 m4 m5 r0 r1 r2 r3 g0 g_e l_a l_b l_c l_n m_x m_y m_d m_t m_v m_n r_s r_n r_w r_k)) (va_runV (As := []) (rest := []) ⟨hx, hb, hml, hown, hts⟩ (kX0_tryAllDirections (l := l) (G := G) g0 g_e  N u_1494 hc_1495 _) (cwV 0 hts gX4_directions_X0_tryAllDirections rfl rfl rfl (by decide +kernel) ⟨Nat.le_of_ble_eq_true rfl, Nat.le_of_ble_eq_true rfl⟩) (wPreV hP hD hK [15] rfl rfl (ci := 0) (qb := 15) rfl rfl rfl) rfl rfl hl.1 rfl (lv_room (Nat.le_of_ble_eq_true rfl)) dX4_directions_4 ⟨Nat.zero_le _, Nat.zero_le _⟩) hP hD hS hA [15] [0, 1, 2, 3, 4, 5, 6, 7, 8, 9, 10, 11, 12, 13, 14] [0, 1, 2, 3, 4, 5, 6, 7, 8, 9, 10, 11, 12, 13, 14, 15] rfl rfl rfl (by decide) rfl rfl (fun H locs hP hD hS => ?_)
  obtain rfl := Option.some.inj h
  exact wri hx hb hr hlocks hP hD hS (Nat.le_of_ble_eq_true rfl) (Nat.le_of_ble_eq_true rfl) rfl dX4_directions_7
def fX4_directionsAnew (N : Nat) (g_e : Int64) : Option (Int32) := bd (fX0_takeApart N g_e (-1)) (fun u_1496 => some u_1496)
set_option maxHeartbeats 4000000 in
set_option maxRecDepth 100000 in
theorem kX4_directionsAnew {l : Launch} {G : wG} (c0 l0 l1 l2 l3 m0 m1 m2 m3 m4 m5 r0 r1 r2 r3 g0 : Nat) (g_e : Int64) (l_a : Nat → Int32) (l_b : Nat → Int32) (l_c : Nat → Int32) (l_n : Int32) (m_x : Nat → Int32) (m_y : Nat → Int32) (m_d : Nat → Int32) (m_t : Nat → Int32) (m_v : Nat → Int32) (m_n : Int32) (r_s : Nat → Int32) (r_n : Nat → Int32) (r_w : Nat → Int32) (r_k : Int32) (N : Nat) (v : Int32) (h : fX4_directionsAnew N g_e = some v) : wCi l G yX4_directionsAnew wsX4_directionsAnew ({ frames := 21, cells := 0, slots := 0, locals := 565 } : Room) [.ref c0] (w_C G c0 l0 l1 l2 l3 m0 m1 m2 m3 m4 m5 r0 r1 r2 r3 g0 g_e l_a l_b l_c l_n m_x m_y m_d m_t m_v m_n r_s r_n r_w r_k) (w_C G c0 l0 l1 l2 l3 m0 m1 m2 m3 m4 m5 r0 r1 r2 r3 g0 g_e l_a l_b l_c l_n m_x m_y m_d m_t m_v m_n r_s r_n r_w r_k) 0 0 v := by
  refine wCi.mk (cc := cX4_directionsAnew) (maxL := 1) (ty := .int) (by decide) rfl (Nat.le_of_ble_eq_true rfl) ?_
  intro p e s m below meth c A ls hx hb hml hr hlocks hts hown hK hA hP hD hl
  have hx : p.tables.exec = Jvm.exec := hx
  have hown : s.vm.findClass RX4 = some m.cls := hown
  have hinX4 : ∀ w ∈ wsX40, w ∈ wsX4_directionsAnew := by decide +kernel
  have lk33 := hts (.fieldLink RX4 33 "Chamberwright" "graph" "LChamberwright$Graph;") (by decide +kernel)
  have hS : va_S A s.heap s.heap [] := va_S.rf
  have hP : va_P G.1 vwCl (w_C G c0 l0 l1 l2 l3 m0 m1 m2 m3 m4 m5 r0 r1 r2 r3 g0 g_e l_a l_b l_c l_n m_x m_y m_d m_t m_v m_n r_s r_n r_w r_k) s.heap := hP
  have hD : va_D A (w_C G c0 l0 l1 l2 l3 m0 m1 m2 m3 m4 m5 r0 r1 r2 r3 g0 g_e l_a l_b l_c l_n m_x m_y m_d m_t m_v m_n r_s r_n r_w r_k) := hD
  have hl : lv_has ls 1 [(0, .ref c0)] := hl
  obtain ⟨args, hargs⟩ : ∃ z : Array Value, z = ([.ref c0] : List Value).toArray := ⟨_, rfl⟩
  rw [← hargs]
  rw [← hargs] at hts
  rw [fX4_directionsAnew.eq_1] at h
  refine lv_aload_n hx hb dX4_directionsAnew_0 rfl (lv_at hl 0 rfl) ?_
  refine va_get (D := G.1) (ci := 4) (v := .ref g0) (C := RX4) (T := TX4) (N := 4) hx hb hts hinX4 hown hK.1 hP 0 rfl rfl 3 (by decide) lk33 (fun _ h9 => h9) rfl dX4_directionsAnew_1 ?_
  refine lv_iconst (v := (-1)) hx hb dX4_directionsAnew_4 (by decide) ?_
  obtain ⟨u_1496, hc_1497, h⟩ := bd_inv h
  refine wafter_i (wr := [(c0, .inr (4, [.ref l0, .ref m0, .ref r0, .ref g0])), (l0, .inr (1, [.ref l1, .ref l2, .ref l3, .int l_n])), (l1, .inl (G.2.1, 9, .inl l_a)), (l2, .inl (G.2.1, 9, .inl l_b)), (l3, .inl (G.2.1, 9, .inl l_c)), (m0, .inr (2, [.ref m1, .ref m2, .ref m3, .ref m4, .ref m5, .int m_n])), (m1, .inl (G.2.1, 36, .inl m_x)), (m2, .inl (G.2.1, 36, .inl m_y)), (m3, .inl (G.2.1, 36, .inl m_d)), (m4, .inl (G.2.1, 36, .inl m_t)), (m5, .inl (G.2.1, 36, .inl m_v)), (r0, .inr (3, [.ref r1, .ref r2, .ref r3, .int r_k])), (r1, .inl (G.2.1, 46, .inl r_s)), (r2, .inl (G.2.1, 512, .inl r_n)), (r3, .inl (G.2.1, 512, .inl r_w))]) (w2 := (w_C G c0 l0 l1 l2 l3 m0 m1 m2 m3 m4 m5 r0 r1 r2 r3 g0 g_e l_a l_b l_c l_n m_x m_y m_d m_t m_v m_n r_s r_n r_w r_k)) (va_runV (As := [.int (-1)]) (rest := []) ⟨hx, hb, hml, hown, hts⟩ (kX0_takeApart (l := l) (G := G) g0 g_e (-1) N u_1496 hc_1497 _) (cwV 1 hts gX4_directionsAnew_X0_takeApart rfl rfl rfl (by decide +kernel) ⟨Nat.le_of_ble_eq_true rfl, Nat.le_of_ble_eq_true rfl⟩) (wPreV hP hD hK [15] rfl rfl (ci := 0) (qb := 15) rfl rfl rfl) rfl rfl hl.1 rfl (lv_room (Nat.le_of_ble_eq_true rfl)) dX4_directionsAnew_5 ⟨Nat.zero_le _, Nat.zero_le _⟩) hP hD hS hA [15] [0, 1, 2, 3, 4, 5, 6, 7, 8, 9, 10, 11, 12, 13, 14] [0, 1, 2, 3, 4, 5, 6, 7, 8, 9, 10, 11, 12, 13, 14, 15] rfl rfl rfl (by decide) rfl rfl (fun H locs hP hD hS => ?_)
  obtain rfl := Option.some.inj h
  exact wri hx hb hr hlocks hP hD hS (Nat.le_of_ble_eq_true rfl) (Nat.le_of_ble_eq_true rfl) rfl dX4_directionsAnew_8
