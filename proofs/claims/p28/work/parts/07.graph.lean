def fJ6_bitCount_0f7a4 (N : Nat) (x0 : Int32) : Option (Int32) := nm (x0 - ((jIushr x0 1) &&& 1431655765)) (fun x0_90 => nm ((x0_90 &&& 858993459) + ((jIushr x0_90 2) &&& 858993459)) (fun x0_91 => nm ((x0_91 + (jIushr x0_91 4)) &&& 252645135) (fun x0_92 => nm (x0_92 + (jIushr x0_92 8)) (fun x0_93 => nm (x0_93 + (jIushr x0_93 16)) (fun x0_94 => some ((x0_94 &&& 63)))))))
set_option maxHeartbeats 4000000 in
set_option maxRecDepth 100000 in
theorem kJ6_bitCount_0f7a4 {l : Launch} {G : wG} (x0 : Int32) (N : Nat) (v : Int32) (h : fJ6_bitCount_0f7a4 N x0 = some v) : wCi l G yJ6_bitCount_0f7a4 wsJ6_bitCount_0f7a4 ({ frames := 0, cells := 0, slots := 0, locals := 0 } : Room) [.int x0] [] [] 0 0 v := by
  refine wCi.mk (cc := cJ6_bitCount_0f7a4) (maxL := 1) (ty := .int) (by decide) rfl (Nat.le_of_ble_eq_true rfl) ?_
  intro p e s m below meth c A ls hx hb hml hr hlocks hts hown hK hA hP hD hl
  have hx : p.tables.exec = Jvm.exec := hx
  have hown : s.vm.findClass RJ6 = some m.cls := hown
  have hS : va_S A s.heap s.heap [] := va_S.rf
  have hP : va_P G.1 vwCl [] s.heap := hP
  have hD : va_D A [] := hD
  have hl : lv_has ls 1 [(0, .int x0)] := hl
  obtain ⟨args, hargs⟩ : ∃ z : Array Value, z = ([.int x0] : List Value).toArray := ⟨_, rfl⟩
  rw [← hargs]
  rw [← hargs] at hts
  rw [fJ6_bitCount_0f7a4.eq_1] at h
  refine lv_iload_n hx hb dJ6_bitCount_0f7a4_0 rfl (lv_at hl 0 rfl) ?_
  refine lv_iload_n hx hb dJ6_bitCount_0f7a4_1 rfl (lv_at hl 0 rfl) ?_
  refine lv_iconst (v := 1) hx hb dJ6_bitCount_0f7a4_2 (by decide) ?_
  refine lv_iushr (v := (jIushr x0 1)) hx hb dJ6_bitCount_0f7a4_3 rfl ?_
  refine lv_ldcw (v := 1431655765) hx hb hown (hts (.constant RJ6 265 (1431655765)) (by decide +kernel)) dJ6_bitCount_0f7a4_4 ?_
  refine lv_iand hx hb dJ6_bitCount_0f7a4_7 ?_
  refine lv_isub hx hb dJ6_bitCount_0f7a4_8 ?_
  refine wnmi h (fun x0_90 h => ?_)
  refine lv_istore_n (lv' := [(0, .int x0_90)]) hx hb dJ6_bitCount_0f7a4_9 rfl hl (by decide) rfl (fun ls hl => ?_)
  refine lv_iload_n hx hb dJ6_bitCount_0f7a4_10 rfl (lv_at hl 0 rfl) ?_
  refine lv_ldcw (v := 858993459) hx hb hown (hts (.constant RJ6 266 (858993459)) (by decide +kernel)) dJ6_bitCount_0f7a4_11 ?_
  refine lv_iand hx hb dJ6_bitCount_0f7a4_14 ?_
  refine lv_iload_n hx hb dJ6_bitCount_0f7a4_15 rfl (lv_at hl 0 rfl) ?_
  refine lv_iconst (v := 2) hx hb dJ6_bitCount_0f7a4_16 (by decide) ?_
  refine lv_iushr (v := (jIushr x0_90 2)) hx hb dJ6_bitCount_0f7a4_17 rfl ?_
  refine lv_ldcw (v := 858993459) hx hb hown (hts (.constant RJ6 266 (858993459)) (by decide +kernel)) dJ6_bitCount_0f7a4_18 ?_
  refine lv_iand hx hb dJ6_bitCount_0f7a4_21 ?_
  refine lv_iadd hx hb dJ6_bitCount_0f7a4_22 ?_
  refine wnmi h (fun x0_91 h => ?_)
  refine lv_istore_n (lv' := [(0, .int x0_91)]) hx hb dJ6_bitCount_0f7a4_23 rfl hl (by decide) rfl (fun ls hl => ?_)
  refine lv_iload_n hx hb dJ6_bitCount_0f7a4_24 rfl (lv_at hl 0 rfl) ?_
  refine lv_iload_n hx hb dJ6_bitCount_0f7a4_25 rfl (lv_at hl 0 rfl) ?_
  refine lv_iconst (v := 4) hx hb dJ6_bitCount_0f7a4_26 (by decide) ?_
  refine lv_iushr (v := (jIushr x0_91 4)) hx hb dJ6_bitCount_0f7a4_27 rfl ?_
  refine lv_iadd hx hb dJ6_bitCount_0f7a4_28 ?_
  refine lv_ldcw (v := 252645135) hx hb hown (hts (.constant RJ6 267 (252645135)) (by decide +kernel)) dJ6_bitCount_0f7a4_29 ?_
  refine lv_iand hx hb dJ6_bitCount_0f7a4_32 ?_
  refine wnmi h (fun x0_92 h => ?_)
  refine lv_istore_n (lv' := [(0, .int x0_92)]) hx hb dJ6_bitCount_0f7a4_33 rfl hl (by decide) rfl (fun ls hl => ?_)
  refine lv_iload_n hx hb dJ6_bitCount_0f7a4_34 rfl (lv_at hl 0 rfl) ?_
  refine lv_iload_n hx hb dJ6_bitCount_0f7a4_35 rfl (lv_at hl 0 rfl) ?_
  refine lv_bipush (v := 8) hx hb dJ6_bitCount_0f7a4_36 (by decide) ?_
  refine lv_iushr (v := (jIushr x0_92 8)) hx hb dJ6_bitCount_0f7a4_38 rfl ?_
  refine lv_iadd hx hb dJ6_bitCount_0f7a4_39 ?_
  refine wnmi h (fun x0_93 h => ?_)
  refine lv_istore_n (lv' := [(0, .int x0_93)]) hx hb dJ6_bitCount_0f7a4_40 rfl hl (by decide) rfl (fun ls hl => ?_)
  refine lv_iload_n hx hb dJ6_bitCount_0f7a4_41 rfl (lv_at hl 0 rfl) ?_
  refine lv_iload_n hx hb dJ6_bitCount_0f7a4_42 rfl (lv_at hl 0 rfl) ?_
  refine lv_bipush (v := 16) hx hb dJ6_bitCount_0f7a4_43 (by decide) ?_
  refine lv_iushr (v := (jIushr x0_93 16)) hx hb dJ6_bitCount_0f7a4_45 rfl ?_
  refine lv_iadd hx hb dJ6_bitCount_0f7a4_46 ?_
  refine wnmi h (fun x0_94 h => ?_)
  refine lv_istore_n (lv' := [(0, .int x0_94)]) hx hb dJ6_bitCount_0f7a4_47 rfl hl (by decide) rfl (fun ls hl => ?_)
  refine lv_iload_n hx hb dJ6_bitCount_0f7a4_48 rfl (lv_at hl 0 rfl) ?_
  refine lv_bipush (v := 63) hx hb dJ6_bitCount_0f7a4_49 (by decide) ?_
  refine lv_iand hx hb dJ6_bitCount_0f7a4_51 ?_
  obtain rfl := Option.some.inj h
  exact wri hx hb hr hlocks hP hD hS (Nat.le_of_ble_eq_true rfl) (Nat.le_of_ble_eq_true rfl) rfl dJ6_bitCount_0f7a4_52
def fX0_sign (N : Nat) (x0 : Int32) (x1 : Int32) : Option (Int64) := some ((jLshl 1 ((6 * x0) + x1)))
set_option maxHeartbeats 4000000 in
set_option maxRecDepth 100000 in
theorem kX0_sign {l : Launch} {G : wG} (x0 : Int32) (x1 : Int32) (N : Nat) (v : Int64) (h : fX0_sign N x0 x1 = some v) : wCl l G yX0_sign wsX0_sign ({ frames := 0, cells := 0, slots := 0, locals := 0 } : Room) [.int x0, .int x1] [] [] 0 0 v := by
  refine wCl.mk (cc := cX0_sign) (maxL := 2) (ty := .long) (by decide) rfl (Nat.le_of_ble_eq_true rfl) ?_
  intro p e s m below meth c A ls hx hb hml hr hlocks hts hown hK hA hP hD hl
  have hx : p.tables.exec = Jvm.exec := hx
  have hown : s.vm.findClass RX0 = some m.cls := hown
  have hS : va_S A s.heap s.heap [] := va_S.rf
  have hP : va_P G.1 vwCl [] s.heap := hP
  have hD : va_D A [] := hD
  have hl : lv_has ls 2 [(0, .int x0), (1, .int x1)] := hl
  obtain ⟨args, hargs⟩ : ∃ z : Array Value, z = ([.int x0, .int x1] : List Value).toArray := ⟨_, rfl⟩
  rw [← hargs]
  rw [← hargs] at hts
  rw [fX0_sign.eq_1] at h
  refine lv_lconst (v := 1) hx hb dX0_sign_0 (by decide) ?_
  refine lv_bipush (v := 6) hx hb dX0_sign_1 (by decide) ?_
  refine lv_iload_n hx hb dX0_sign_3 rfl (lv_at hl 0 rfl) ?_
  refine lv_imul hx hb dX0_sign_4 ?_
  refine lv_iload_n hx hb dX0_sign_5 rfl (lv_at hl 1 rfl) ?_
  refine lv_iadd hx hb dX0_sign_6 ?_
  refine lv_lshl (v := (jLshl 1 ((6 * x0) + x1))) hx hb dX0_sign_7 rfl ?_
  obtain rfl := Option.some.inj h
  exact wrl hx hb hr hlocks hP hD hS (Nat.le_of_ble_eq_true rfl) (Nat.le_of_ble_eq_true rfl) rfl dX0_sign_8
def fX0_tie (N : Nat) (x0 : Int32) (x1 : Int32) : Option (Int64) := bd (fX0_sign N x0 x1) (fun u_95 => bd (fX0_sign N x1 x0) (fun u_97 => some ((u_95 ||| u_97))))
set_option maxHeartbeats 4000000 in
set_option maxRecDepth 100000 in
theorem kX0_tie {l : Launch} {G : wG} (x0 : Int32) (x1 : Int32) (N : Nat) (v : Int64) (h : fX0_tie N x0 x1 = some v) : wCl l G yX0_tie wsX0_tie ({ frames := 1, cells := 0, slots := 0, locals := 21 } : Room) [.int x0, .int x1] [] [] 0 0 v := by
  refine wCl.mk (cc := cX0_tie) (maxL := 2) (ty := .long) (by decide) rfl (Nat.le_of_ble_eq_true rfl) ?_
  intro p e s m below meth c A ls hx hb hml hr hlocks hts hown hK hA hP hD hl
  have hx : p.tables.exec = Jvm.exec := hx
  have hown : s.vm.findClass RX0 = some m.cls := hown
  have hS : va_S A s.heap s.heap [] := va_S.rf
  have hP : va_P G.1 vwCl [] s.heap := hP
  have hD : va_D A [] := hD
  have hl : lv_has ls 2 [(0, .int x0), (1, .int x1)] := hl
  obtain ⟨args, hargs⟩ : ∃ z : Array Value, z = ([.int x0, .int x1] : List Value).toArray := ⟨_, rfl⟩
  rw [← hargs]
  rw [← hargs] at hts
  rw [fX0_tie.eq_1] at h
  refine lv_iload_n hx hb dX0_tie_0 rfl (lv_at hl 0 rfl) ?_
  refine lv_iload_n hx hb dX0_tie_1 rfl (lv_at hl 1 rfl) ?_
  obtain ⟨u_95, hc_96, h⟩ := bd_inv h
  refine wafter_l (wr := []) (w2 := []) (va_runS (As := [.int x0, .int x1]) (rest := []) ⟨hx, hb, hml, hown, hts⟩ (kX0_sign (l := l) (G := G)   x0 x1 N u_95 hc_96 _) (va_cwS 2 hts gX0_tie_X0_sign rfl rfl rfl (by decide +kernel) ⟨Nat.le_of_ble_eq_true rfl, Nat.le_of_ble_eq_true rfl⟩) (wPreS hP hD hK [] rfl rfl) rfl rfl hl.1 rfl (lv_room (Nat.le_of_ble_eq_true rfl)) dX0_tie_2 ⟨Nat.zero_le _, Nat.zero_le _⟩) hP hD hS hA [] [] [] rfl rfl rfl (by decide) rfl rfl (fun H locs hP hD hS => ?_)
  refine lv_iload_n hx hb dX0_tie_5 rfl (lv_at hl 1 rfl) ?_
  refine lv_iload_n hx hb dX0_tie_6 rfl (lv_at hl 0 rfl) ?_
  obtain ⟨u_97, hc_98, h⟩ := bd_inv h
  refine wafter_l (wr := []) (w2 := []) (va_runS (As := [.int x1, .int x0]) (rest := [.long u_95]) ⟨hx, hb, hml, hown, hts⟩ (kX0_sign (l := l) (G := G)   x1 x0 N u_97 hc_98 _) (va_cwS 2 hts gX0_tie_X0_sign rfl rfl rfl (by decide +kernel) ⟨Nat.le_of_ble_eq_true rfl, Nat.le_of_ble_eq_true rfl⟩) (wPreS hP hD hK [] rfl rfl) rfl rfl hl.1 rfl (lv_room (Nat.le_of_ble_eq_true rfl)) dX0_tie_7 ⟨Nat.zero_le _, Nat.zero_le _⟩) hP hD hS hA [] [] [] rfl rfl rfl (by decide) rfl rfl (fun H locs hP hD hS => ?_)
  refine lv_lor hx hb dX0_tie_10 ?_
  obtain rfl := Option.some.inj h
  exact wrl hx hb hr hlocks hP hD hS (Nat.le_of_ble_eq_true rfl) (Nat.le_of_ble_eq_true rfl) rfl dX0_tie_11
def fX0_turn (N : Nat) (g_e : Int64) (x1 : Int32) (x2 : Int32) : Option (Int64) := bd (fX0_tie N x1 x2) (fun u_99 => some ((g_e ^^^ u_99)))
set_option maxHeartbeats 4000000 in
set_option maxRecDepth 100000 in
theorem kX0_turn {l : Launch} {G : wG} (g0 : Nat) (g_e : Int64) (x1 : Int32) (x2 : Int32) (N : Nat) (v : Int64) (h : fX0_turn N g_e x1 x2 = some v) : wCv l G yX0_turn wsX0_turn ({ frames := 2, cells := 0, slots := 0, locals := 42 } : Room) [.ref g0, .int x1, .int x2] (w_G G g0 g_e) (w_G G g0 v) 0 0 := by
  refine wCv.mk (cc := cX0_turn) (maxL := 3) (by decide) rfl (Nat.le_of_ble_eq_true rfl) ?_
  intro p e s m below meth c A ls hx hb hml hr hlocks hts hown hK hA hP hD hl
  have hx : p.tables.exec = Jvm.exec := hx
  have hown : s.vm.findClass RX0 = some m.cls := hown
  have hinX0 : ∀ w ∈ wsX00, w ∈ wsX0_turn := by decide +kernel
  have lk9 := hts (.fieldLink RX0 9 "Chamberwright$Graph" "edges" "J") (by decide +kernel)
  have hS : va_S A s.heap s.heap [] := va_S.rf
  have hP : va_P G.1 vwCl (w_G G g0 g_e) s.heap := hP
  have hD : va_D A (w_G G g0 g_e) := hD
  have hl : lv_has ls 3 [(0, .ref g0), (1, .int x1), (2, .int x2)] := hl
  obtain ⟨args, hargs⟩ : ∃ z : Array Value, z = ([.ref g0, .int x1, .int x2] : List Value).toArray := ⟨_, rfl⟩
  rw [← hargs]
  rw [← hargs] at hts
  rw [fX0_turn.eq_1] at h
  refine lv_aload_n hx hb dX0_turn_0 rfl (lv_at hl 0 rfl) ?_
  refine lv_dup hx hb dX0_turn_1 rfl ?_
  refine va_get (D := G.1) (ci := 0) (v := .long g_e) (C := RX0) (T := TX0) (N := 1) hx hb hts hinX0 hown hK.1 hP 0 rfl rfl 0 (by decide) lk9 (fun _ h9 => h9) rfl dX0_turn_2 ?_
  refine lv_iload_n hx hb dX0_turn_5 rfl (lv_at hl 1 rfl) ?_
  refine lv_iload_n hx hb dX0_turn_6 rfl (lv_at hl 2 rfl) ?_
  obtain ⟨u_99, hc_100, h⟩ := bd_inv h
  refine wafter_l (wr := (w_G G g0 g_e)) (w2 := (w_G G g0 g_e)) (va_runS (As := [.int x1, .int x2]) (rest := [.long g_e, .ref g0]) ⟨hx, hb, hml, hown, hts⟩ (kX0_tie (l := l) (G := G)   x1 x2 N u_99 hc_100 _) (va_cwS 2 hts gX0_turn_X0_tie rfl rfl rfl (by decide +kernel) ⟨Nat.le_of_ble_eq_true rfl, Nat.le_of_ble_eq_true rfl⟩) (wPreS hP hD hK [] rfl rfl) rfl rfl hl.1 rfl (lv_room (Nat.le_of_ble_eq_true rfl)) dX0_turn_7 ⟨Nat.zero_le _, Nat.zero_le _⟩) hP hD hS hA [] [0] [0] rfl rfl rfl (by decide) rfl rfl (fun H locs hP hD hS => ?_)
  refine lv_lxor hx hb dX0_turn_10 ?_
  refine va_put (D := G.1) (ci := 0) (v := .long (g_e ^^^ u_99)) (ty := .long) (C := RX0) (T := TX0) (N := 1) hx hb hts hinX0 tyX0 tyX0_ok nmX0 hown hK.1 hP hD hS 0 rfl rfl 0 (by decide) lk9 (fun _ h9 => h9) rfl (by decide +kernel) rfl rfl (Nat.le_of_ble_eq_true rfl) dX0_turn_11 (fun H locs hP hD hS => ?_)
  have hP : va_P G.1 vwCl (w_G G g0 ((g_e ^^^ u_99))) H := hP
  have hD : va_D A (w_G G g0 ((g_e ^^^ u_99))) := hD
  obtain rfl := Option.some.inj h
  exact wrv hx hb hr hlocks hP hD hS (Nat.le_of_ble_eq_true rfl) (Nat.le_of_ble_eq_true rfl) dX0_turn_14
def fJ13_bitCount_95d88 (N : Nat) (x0 : Int64) : Option (Int32) := nm (x0 - ((jLushr x0 1) &&& 6148914691236517205)) (fun x0_101 => nm ((x0_101 &&& 3689348814741910323) + ((jLushr x0_101 2) &&& 3689348814741910323)) (fun x0_102 => nm ((x0_102 + (jLushr x0_102 4)) &&& 1085102592571150095) (fun x0_103 => nm (x0_103 + (jLushr x0_103 8)) (fun x0_104 => nm (x0_104 + (jLushr x0_104 16)) (fun x0_105 => nm (x0_105 + (jLushr x0_105 32)) (fun x0_106 => some (((Int64.toInt32 x0_106) &&& 127))))))))
set_option maxHeartbeats 4000000 in
set_option maxRecDepth 100000 in
theorem kJ13_bitCount_95d88 {l : Launch} {G : wG} (x0 : Int64) (N : Nat) (v : Int32) (h : fJ13_bitCount_95d88 N x0 = some v) : wCi l G yJ13_bitCount_95d88 wsJ13_bitCount_95d88 ({ frames := 0, cells := 0, slots := 0, locals := 0 } : Room) [.long x0] [] [] 0 0 v := by
  refine wCi.mk (cc := cJ13_bitCount_95d88) (maxL := 2) (ty := .int) (by decide) rfl (Nat.le_of_ble_eq_true rfl) ?_
  intro p e s m below meth c A ls hx hb hml hr hlocks hts hown hK hA hP hD hl
  have hx : p.tables.exec = Jvm.exec := hx
  have hown : s.vm.findClass RJ13 = some m.cls := hown
  have hS : va_S A s.heap s.heap [] := va_S.rf
  have hP : va_P G.1 vwCl [] s.heap := hP
  have hD : va_D A [] := hD
  have hl : lv_has ls 2 [(0, .long x0)] := hl
  obtain ⟨args, hargs⟩ : ∃ z : Array Value, z = ([.long x0] : List Value).toArray := ⟨_, rfl⟩
  rw [← hargs]
  rw [← hargs] at hts
  rw [fJ13_bitCount_95d88.eq_1] at h
  refine lv_lload_n hx hb dJ13_bitCount_95d88_0 rfl (lv_at hl 0 rfl) ?_
  refine lv_lload_n hx hb dJ13_bitCount_95d88_1 rfl (lv_at hl 0 rfl) ?_
  refine lv_iconst (v := 1) hx hb dJ13_bitCount_95d88_2 (by decide) ?_
  refine lv_lushr (v := (jLushr x0 1)) hx hb dJ13_bitCount_95d88_3 rfl ?_
  refine lv_ldc2 (v := 6148914691236517205) hx hb hown (hts (.constantLong RJ13 314 (6148914691236517205)) (by decide +kernel)) dJ13_bitCount_95d88_4 ?_
  refine lv_land hx hb dJ13_bitCount_95d88_7 ?_
  refine lv_lsub hx hb dJ13_bitCount_95d88_8 ?_
  refine wnml h (fun x0_101 h => ?_)
  refine lv_lstore_n (lv' := [(0, .long x0_101)]) hx hb dJ13_bitCount_95d88_9 rfl hl (by decide) rfl (fun ls hl => ?_)
  refine lv_lload_n hx hb dJ13_bitCount_95d88_10 rfl (lv_at hl 0 rfl) ?_
  refine lv_ldc2 (v := 3689348814741910323) hx hb hown (hts (.constantLong RJ13 316 (3689348814741910323)) (by decide +kernel)) dJ13_bitCount_95d88_11 ?_
  refine lv_land hx hb dJ13_bitCount_95d88_14 ?_
  refine lv_lload_n hx hb dJ13_bitCount_95d88_15 rfl (lv_at hl 0 rfl) ?_
  refine lv_iconst (v := 2) hx hb dJ13_bitCount_95d88_16 (by decide) ?_
  refine lv_lushr (v := (jLushr x0_101 2)) hx hb dJ13_bitCount_95d88_17 rfl ?_
  refine lv_ldc2 (v := 3689348814741910323) hx hb hown (hts (.constantLong RJ13 316 (3689348814741910323)) (by decide +kernel)) dJ13_bitCount_95d88_18 ?_
  refine lv_land hx hb dJ13_bitCount_95d88_21 ?_
  refine lv_ladd hx hb dJ13_bitCount_95d88_22 ?_
  refine wnml h (fun x0_102 h => ?_)
  refine lv_lstore_n (lv' := [(0, .long x0_102)]) hx hb dJ13_bitCount_95d88_23 rfl hl (by decide) rfl (fun ls hl => ?_)
  refine lv_lload_n hx hb dJ13_bitCount_95d88_24 rfl (lv_at hl 0 rfl) ?_
  refine lv_lload_n hx hb dJ13_bitCount_95d88_25 rfl (lv_at hl 0 rfl) ?_
  refine lv_iconst (v := 4) hx hb dJ13_bitCount_95d88_26 (by decide) ?_
  refine lv_lushr (v := (jLushr x0_102 4)) hx hb dJ13_bitCount_95d88_27 rfl ?_
  refine lv_ladd hx hb dJ13_bitCount_95d88_28 ?_
  refine lv_ldc2 (v := 1085102592571150095) hx hb hown (hts (.constantLong RJ13 318 (1085102592571150095)) (by decide +kernel)) dJ13_bitCount_95d88_29 ?_
  refine lv_land hx hb dJ13_bitCount_95d88_32 ?_
  refine wnml h (fun x0_103 h => ?_)
  refine lv_lstore_n (lv' := [(0, .long x0_103)]) hx hb dJ13_bitCount_95d88_33 rfl hl (by decide) rfl (fun ls hl => ?_)
  refine lv_lload_n hx hb dJ13_bitCount_95d88_34 rfl (lv_at hl 0 rfl) ?_
  refine lv_lload_n hx hb dJ13_bitCount_95d88_35 rfl (lv_at hl 0 rfl) ?_
  refine lv_bipush (v := 8) hx hb dJ13_bitCount_95d88_36 (by decide) ?_
  refine lv_lushr (v := (jLushr x0_103 8)) hx hb dJ13_bitCount_95d88_38 rfl ?_
  refine lv_ladd hx hb dJ13_bitCount_95d88_39 ?_
  refine wnml h (fun x0_104 h => ?_)
  refine lv_lstore_n (lv' := [(0, .long x0_104)]) hx hb dJ13_bitCount_95d88_40 rfl hl (by decide) rfl (fun ls hl => ?_)
  refine lv_lload_n hx hb dJ13_bitCount_95d88_41 rfl (lv_at hl 0 rfl) ?_
  refine lv_lload_n hx hb dJ13_bitCount_95d88_42 rfl (lv_at hl 0 rfl) ?_
  refine lv_bipush (v := 16) hx hb dJ13_bitCount_95d88_43 (by decide) ?_
  refine lv_lushr (v := (jLushr x0_104 16)) hx hb dJ13_bitCount_95d88_45 rfl ?_
  refine lv_ladd hx hb dJ13_bitCount_95d88_46 ?_
  refine wnml h (fun x0_105 h => ?_)
  refine lv_lstore_n (lv' := [(0, .long x0_105)]) hx hb dJ13_bitCount_95d88_47 rfl hl (by decide) rfl (fun ls hl => ?_)
  refine lv_lload_n hx hb dJ13_bitCount_95d88_48 rfl (lv_at hl 0 rfl) ?_
  refine lv_lload_n hx hb dJ13_bitCount_95d88_49 rfl (lv_at hl 0 rfl) ?_
  refine lv_bipush (v := 32) hx hb dJ13_bitCount_95d88_50 (by decide) ?_
  refine lv_lushr (v := (jLushr x0_105 32)) hx hb dJ13_bitCount_95d88_52 rfl ?_
  refine lv_ladd hx hb dJ13_bitCount_95d88_53 ?_
  refine wnml h (fun x0_106 h => ?_)
  refine lv_lstore_n (lv' := [(0, .long x0_106)]) hx hb dJ13_bitCount_95d88_54 rfl hl (by decide) rfl (fun ls hl => ?_)
  refine lv_lload_n hx hb dJ13_bitCount_95d88_55 rfl (lv_at hl 0 rfl) ?_
  refine lv_l2i hx hb dJ13_bitCount_95d88_56 rfl ?_
  refine lv_bipush (v := 127) hx hb dJ13_bitCount_95d88_57 (by decide) ?_
  refine lv_iand hx hb dJ13_bitCount_95d88_59 ?_
  obtain rfl := Option.some.inj h
  exact wri hx hb hr hlocks hP hD hS (Nat.le_of_ble_eq_true rfl) (Nat.le_of_ble_eq_true rfl) rfl dJ13_bitCount_95d88_60
def fX0_count (N : Nat) (g_e : Int64) : Option (Int32) := bd (fJ13_bitCount_95d88 N g_e) (fun u_107 => nz 2 (some ((u_107 / 2))))
set_option maxHeartbeats 4000000 in
set_option maxRecDepth 100000 in
theorem kX0_count {l : Launch} {G : wG} (g0 : Nat) (g_e : Int64) (N : Nat) (v : Int32) (h : fX0_count N g_e = some v) : wCi l G yX0_count wsX0_count ({ frames := 1, cells := 0, slots := 0, locals := 21 } : Room) [.ref g0] (w_G G g0 g_e) (w_G G g0 g_e) 0 0 v := by
  refine wCi.mk (cc := cX0_count) (maxL := 1) (ty := .int) (by decide) rfl (Nat.le_of_ble_eq_true rfl) ?_
  intro p e s m below meth c A ls hx hb hml hr hlocks hts hown hK hA hP hD hl
  have hx : p.tables.exec = Jvm.exec := hx
  have hown : s.vm.findClass RX0 = some m.cls := hown
  have hinX0 : ∀ w ∈ wsX00, w ∈ wsX0_count := by decide +kernel
  have lk9 := hts (.fieldLink RX0 9 "Chamberwright$Graph" "edges" "J") (by decide +kernel)
  have hS : va_S A s.heap s.heap [] := va_S.rf
  have hP : va_P G.1 vwCl (w_G G g0 g_e) s.heap := hP
  have hD : va_D A (w_G G g0 g_e) := hD
  have hl : lv_has ls 1 [(0, .ref g0)] := hl
  obtain ⟨args, hargs⟩ : ∃ z : Array Value, z = ([.ref g0] : List Value).toArray := ⟨_, rfl⟩
  rw [← hargs]
  rw [← hargs] at hts
  rw [fX0_count.eq_1] at h
  refine lv_aload_n hx hb dX0_count_0 rfl (lv_at hl 0 rfl) ?_
  refine va_get (D := G.1) (ci := 0) (v := .long g_e) (C := RX0) (T := TX0) (N := 1) hx hb hts hinX0 hown hK.1 hP 0 rfl rfl 0 (by decide) lk9 (fun _ h9 => h9) rfl dX0_count_1 ?_
  obtain ⟨u_107, hc_108, h⟩ := bd_inv h
  refine wafter_i (wr := (w_G G g0 g_e)) (w2 := (w_G G g0 g_e)) (va_runS (As := [.long g_e]) (rest := []) ⟨hx, hb, hml, hown, hts⟩ (kJ13_bitCount_95d88 (l := l) (G := G)   g_e N u_107 hc_108 _) (va_cwS 1 hts gX0_count_J13_bitCount_95d88 rfl rfl rfl (by decide +kernel) ⟨Nat.le_of_ble_eq_true rfl, Nat.le_of_ble_eq_true rfl⟩) (wPreS hP hD hK [] rfl rfl) rfl rfl hl.1 rfl (lv_room (Nat.le_of_ble_eq_true rfl)) dX0_count_4 ⟨Nat.zero_le _, Nat.zero_le _⟩) hP hD hS hA [] [0] [0] rfl rfl rfl (by decide) rfl rfl (fun H locs hP hD hS => ?_)
  refine lv_iconst (v := 2) hx hb dX0_count_7 (by decide) ?_
  obtain ⟨hz, h⟩ := nz_inv h
  refine lv_idiv hx hb dX0_count_8 hz ?_
  obtain rfl := Option.some.inj h
  exact wri hx hb hr hlocks hP hD hS (Nat.le_of_ble_eq_true rfl) (Nat.le_of_ble_eq_true rfl) rfl dX0_count_9
def fX0_row (N : Nat) (x0 : Int64) (x2 : Int32) : Option (Int32) := some (((Int64.toInt32 (jLushr x0 (6 * x2))) &&& 63))
set_option maxHeartbeats 4000000 in
set_option maxRecDepth 100000 in
theorem kX0_row {l : Launch} {G : wG} (x0 : Int64) (x2 : Int32) (N : Nat) (v : Int32) (h : fX0_row N x0 x2 = some v) : wCi l G yX0_row wsX0_row ({ frames := 0, cells := 0, slots := 0, locals := 0 } : Room) [.long x0, .int x2] [] [] 0 0 v := by
  refine wCi.mk (cc := cX0_row) (maxL := 3) (ty := .int) (by decide) rfl (Nat.le_of_ble_eq_true rfl) ?_
  intro p e s m below meth c A ls hx hb hml hr hlocks hts hown hK hA hP hD hl
  have hx : p.tables.exec = Jvm.exec := hx
  have hown : s.vm.findClass RX0 = some m.cls := hown
  have hS : va_S A s.heap s.heap [] := va_S.rf
  have hP : va_P G.1 vwCl [] s.heap := hP
  have hD : va_D A [] := hD
  have hl : lv_has ls 3 [(0, .long x0), (2, .int x2)] := hl
  obtain ⟨args, hargs⟩ : ∃ z : Array Value, z = ([.long x0, .int x2] : List Value).toArray := ⟨_, rfl⟩
  rw [← hargs]
  rw [← hargs] at hts
  rw [fX0_row.eq_1] at h
  refine lv_lload_n hx hb dX0_row_0 rfl (lv_at hl 0 rfl) ?_
  refine lv_bipush (v := 6) hx hb dX0_row_1 (by decide) ?_
  refine lv_iload_n hx hb dX0_row_3 rfl (lv_at hl 1 rfl) ?_
  refine lv_imul hx hb dX0_row_4 ?_
  refine lv_lushr (v := (jLushr x0 (6 * x2))) hx hb dX0_row_5 rfl ?_
  refine lv_l2i hx hb dX0_row_6 rfl ?_
  refine lv_bipush (v := 63) hx hb dX0_row_7 (by decide) ?_
  refine lv_iand hx hb dX0_row_9 ?_
  obtain rfl := Option.some.inj h
  exact wri hx hb hr hlocks hP hD hS (Nat.le_of_ble_eq_true rfl) (Nat.le_of_ble_eq_true rfl) rfl dX0_row_10
def fX0_tried_b21 (N : Nat) (self : Int64 → Int32 → Int32 → Int64 → Option (Int32)) (x0 : Int64) (x2 : Int32) (x3 : Int32) (x4 : Int64) (x6 : Int32) : Nat → Int32 → Int32 → Option (Int32)
  | 0, _, _ => none
  | n + 1, x7, x8 => if x2 ≤ x8 then some x7 else bd (fX0_row N x4 x8) (fun u_110 => if (u_110 &&& x6) = 0 then bd (fX0_sign N x8 x3) (fun u_113 => bd (self x0 x2 (x3 + 1) (x4 ||| u_113)) (fun u_115 => fX0_tried_b21 N self x0 x2 x3 x4 x6 n (x7 + u_115) (x8 + 1))) else fX0_tried_b21 N self x0 x2 x3 x4 x6 n x7 (x8 + 1))
def fX0_tried (N : Nat) : Nat → Int64 → Int32 → Int32 → Int64 → Option (Int32)
  | 0, _, _, _, _ => none
  | d + 1, x0, x2, x3, x4 => if x3 < 6 then bd (fX0_row N x0 x3) (fun u_118 => fX0_tried_b21 N (fX0_tried N d) x0 x2 x3 x4 u_118 N 0 0) else some 1
set_option maxHeartbeats 4000000 in
set_option maxRecDepth 100000 in
theorem kX0_tried {l : Launch} {G : wG} (x0 : Int64) (x2 : Int32) (x3 : Int32) (x4 : Int64) (N d : Nat) (v : Int32) (h : fX0_tried N d x0 x2 x3 x4 = some v) : wCi l G yX0_tried wsX0_tried ({ frames := 1 + d, cells := 0, slots := 0, locals := 22 + d * 28 } : Room) [.long x0, .int x2, .int x3, .long x4] [] [] 0 0 v := by
  induction d generalizing x0 x2 x3 x4 v with
  | zero =>
    rw [fX0_tried.eq_1] at h
    cases h
  | succ d ih0 =>
    have ihr := fun x0 x2 x3 x4 v h => ih0 x0 x2 x3 x4 v h
    refine wCi.mk (cc := cX0_tried) (maxL := 9) (ty := .int) (by decide) rfl (Nat.le_of_ble_eq_true rfl) ?_
    intro p e s m below meth c A ls hx hb hml hr hlocks hts hown hK hA hP hD hl
    have hx : p.tables.exec = Jvm.exec := hx
    have hown : s.vm.findClass RX0 = some m.cls := hown
    have hS : va_S A s.heap s.heap [] := va_S.rf
    have hP : va_P G.1 vwCl [] s.heap := hP
    have hD : va_D A [] := hD
    have hl : lv_has ls 9 [(0, .long x0), (2, .int x2), (3, .int x3), (4, .long x4)] := hl
    obtain ⟨args, hargs⟩ : ∃ z : Array Value, z = ([.long x0, .int x2, .int x3, .long x4] : List Value).toArray := ⟨_, rfl⟩
    rw [← hargs]
    rw [← hargs] at hts
    have w_21 : ∀ (x0 : Int64) (x2 : Int32) (x3 : Int32) (x4 : Int64) (x6 : Int32)  (_z : Unit), ∀ (n : Nat) (x7 : Int32) (x8 : Int32)  (H : Heap) (locs : List Loc) (ls : Array Slot), va_P G.1 vwCl [] H → va_D A [] → va_S A s.heap H locs → lv_has ls 9 [(0, .long x0), (2, .int x2), (3, .int x3), (4, .long x4), (6, .int x6), (7, .int x7), (8, .int x8)] → fX0_tried_b21 N (fX0_tried N d) x0 x2 x3 x4 x6 n x7 x8 = some v → W p l e ({ frames := 1 + (d + 1), cells := 0, slots := 0, locals := 22 + (d + 1) * 28 } : Room) s m args below meth c H locs 0 0 (wQi G A below args s [] 0 0 v) (F0 m 21 ls []) := by
      intro x0 x2 x3 x4 x6 _z n
      induction n with
      | zero =>
        intro x7 x8 H locs ls hP hD hS hl h
        rw [fX0_tried_b21.eq_1] at h
        cases h
      | succ n ih =>
        intro x7 x8 H locs ls hP hD hS hl h
        rw [fX0_tried_b21.eq_2] at h
        refine lv_iload hx hb dX0_tried_21 (lv_at hl 6 rfl) ?_
        refine lv_iload_n hx hb dX0_tried_23 rfl (lv_at hl 1 rfl) ?_
        refine lv_icmp_ge (tgt := 68) hx hb dX0_tried_24 (by decide) (fun c_109 => ?_) (fun c_109 => ?_)
        · have h := ip c_109 h
          refine lv_iload hx hb dX0_tried_68 (lv_at hl 5 rfl) ?_
          obtain rfl := Option.some.inj h
          exact wri hx hb hr hlocks hP hD hS (Nat.le_refl _) (Nat.le_refl _) rfl dX0_tried_70
        · have h := iq c_109 h
          refine lv_lload hx hb dX0_tried_27 (lv_at hl 3 rfl) ?_
          refine lv_iload hx hb dX0_tried_29 (lv_at hl 6 rfl) ?_
          obtain ⟨u_110, hc_111, h⟩ := bd_inv h
          refine wafter_i (wr := []) (w2 := []) (va_runS (As := [.long x4, .int x8]) (rest := []) ⟨hx, hb, hml, hown, hts⟩ (kX0_row (l := l) (G := G)   x4 x8 N u_110 hc_111 _) (va_cwS 2 hts gX0_tried_X0_row rfl rfl rfl (by decide +kernel) ⟨by simp only []; omega, by simp only []; omega⟩) (wPreS hP hD hK [] rfl rfl) rfl rfl hl.1 rfl (lv_room (Nat.le_of_ble_eq_true rfl)) dX0_tried_31 ⟨Nat.zero_le _, Nat.zero_le _⟩) hP hD hS hA [] [] [] rfl rfl rfl (by decide) rfl rfl (fun H locs hP hD hS => ?_)
          refine lv_iload hx hb dX0_tried_34 (lv_at hl 4 rfl) ?_
          refine lv_iand hx hb dX0_tried_36 ?_
          refine lv_if_ne (tgt := 62) hx hb dX0_tried_37 (by decide) (fun c_112 => ?_) (fun c_112 => ?_)
          · have h := iq c_112 h
            refine lv_iinc (v := (x8 + 1)) (lv' := [(8, .int (x8 + 1)), (0, .long x0), (2, .int x2), (3, .int x3), (4, .long x4), (6, .int x6), (7, .int x7)]) hx hb dX0_tried_62 hl (k := 6) rfl rfl (by decide) rfl (fun ls hl => ?_)
            refine lv_goto (tgt := 21) hx hb dX0_tried_65 (by decide) ?_
            exact ih _ _ _ _ _ hP hD hS (lv_sub hl [1, 2, 3, 4, 5, 6, 0] rfl) h
          · have h := ip c_112 h
            refine lv_iload hx hb dX0_tried_40 (lv_at hl 5 rfl) ?_
            refine lv_lload_n hx hb dX0_tried_42 rfl (lv_at hl 0 rfl) ?_
            refine lv_iload_n hx hb dX0_tried_43 rfl (lv_at hl 1 rfl) ?_
            refine lv_iload_n hx hb dX0_tried_44 rfl (lv_at hl 2 rfl) ?_
            refine lv_iconst (v := 1) hx hb dX0_tried_45 (by decide) ?_
            refine lv_iadd hx hb dX0_tried_46 ?_
            refine lv_lload hx hb dX0_tried_47 (lv_at hl 3 rfl) ?_
            refine lv_iload hx hb dX0_tried_49 (lv_at hl 6 rfl) ?_
            refine lv_iload_n hx hb dX0_tried_51 rfl (lv_at hl 2 rfl) ?_
            obtain ⟨u_113, hc_114, h⟩ := bd_inv h
            refine wafter_l (wr := []) (w2 := []) (va_runS (As := [.int x8, .int x3]) (rest := [.long x4, .int (x3 + 1), .int x2, .long x0, .int x7]) ⟨hx, hb, hml, hown, hts⟩ (kX0_sign (l := l) (G := G)   x8 x3 N u_113 hc_114 _) (va_cwS 2 hts gX0_tried_X0_sign rfl rfl rfl (by decide +kernel) ⟨by simp only []; omega, by simp only []; omega⟩) (wPreS hP hD hK [] rfl rfl) rfl rfl hl.1 rfl (lv_room (Nat.le_of_ble_eq_true rfl)) dX0_tried_52 ⟨Nat.zero_le _, Nat.zero_le _⟩) hP hD hS hA [] [] [] rfl rfl rfl (by decide) rfl rfl (fun H locs hP hD hS => ?_)
            refine lv_lor hx hb dX0_tried_55 ?_
            obtain ⟨u_115, hc_116, h⟩ := bd_inv h
            refine wafter_i (wr := []) (w2 := []) (va_runS (As := [.long x0, .int x2, .int (x3 + 1), .long (x4 ||| u_113)]) (rest := [.int x7]) ⟨hx, hb, hml, hown, hts⟩ (ihr   _ _ _ _ u_115 hc_116 _) (va_cwS 4 hts gX0_tried_X0_tried rfl rfl rfl (by decide +kernel) ⟨by simp only []; omega, by simp only []; omega⟩) (wPreS hP hD hK [] rfl rfl) rfl rfl hl.1 rfl (lv_room (Nat.le_of_ble_eq_true rfl)) dX0_tried_56 ⟨Nat.zero_le _, Nat.zero_le _⟩) hP hD hS hA [] [] [] rfl rfl rfl (by decide) rfl rfl (fun H locs hP hD hS => ?_)
            refine lv_iadd hx hb dX0_tried_59 ?_
            refine lv_istore (lv' := [(7, .int (x7 + u_115)), (0, .long x0), (2, .int x2), (3, .int x3), (4, .long x4), (6, .int x6), (8, .int x8)]) hx hb dX0_tried_60 hl (by decide) rfl (fun ls hl => ?_)
            refine lv_iinc (v := (x8 + 1)) (lv' := [(8, .int (x8 + 1)), (7, .int (x7 + u_115)), (0, .long x0), (2, .int x2), (3, .int x3), (4, .long x4), (6, .int x6)]) hx hb dX0_tried_62 hl (k := 6) rfl rfl (by decide) rfl (fun ls hl => ?_)
            refine lv_goto (tgt := 21) hx hb dX0_tried_65 (by decide) ?_
            exact ih _ _ _ _ _ hP hD hS (lv_sub hl [2, 3, 4, 5, 6, 1, 0] rfl) h
    rw [fX0_tried.eq_2] at h
    refine lv_iload_n hx hb dX0_tried_0 rfl (lv_at hl 2 rfl) ?_
    refine lv_bipush (v := 6) hx hb dX0_tried_1 (by decide) ?_
    refine lv_icmp_lt (tgt := 8) hx hb dX0_tried_3 (by decide) (fun c_117 => ?_) (fun c_117 => ?_)
    · have h := ip c_117 h
      refine lv_lload_n hx hb dX0_tried_8 rfl (lv_at hl 0 rfl) ?_
      refine lv_iload_n hx hb dX0_tried_9 rfl (lv_at hl 2 rfl) ?_
      obtain ⟨u_118, hc_119, h⟩ := bd_inv h
      refine wafter_i (wr := []) (w2 := []) (va_runS (As := [.long x0, .int x3]) (rest := []) ⟨hx, hb, hml, hown, hts⟩ (kX0_row (l := l) (G := G)   x0 x3 N u_118 hc_119 _) (va_cwS 2 hts gX0_tried_X0_row rfl rfl rfl (by decide +kernel) ⟨by simp only []; omega, by simp only []; omega⟩) (wPreS hP hD hK [] rfl rfl) rfl rfl hl.1 rfl (lv_room (Nat.le_of_ble_eq_true rfl)) dX0_tried_10 ⟨Nat.zero_le _, Nat.zero_le _⟩) hP hD hS hA [] [] [] rfl rfl rfl (by decide) rfl rfl (fun H locs hP hD hS => ?_)
      refine lv_istore (lv' := [(6, .int u_118), (0, .long x0), (2, .int x2), (3, .int x3), (4, .long x4)]) hx hb dX0_tried_13 hl (by decide) rfl (fun ls hl => ?_)
      refine lv_iconst (v := 0) hx hb dX0_tried_15 (by decide) ?_
      refine lv_istore (lv' := [(7, .int 0), (6, .int u_118), (0, .long x0), (2, .int x2), (3, .int x3), (4, .long x4)]) hx hb dX0_tried_16 hl (by decide) rfl (fun ls hl => ?_)
      refine lv_iconst (v := 0) hx hb dX0_tried_18 (by decide) ?_
      refine lv_istore (lv' := [(8, .int 0), (7, .int 0), (6, .int u_118), (0, .long x0), (2, .int x2), (3, .int x3), (4, .long x4)]) hx hb dX0_tried_19 hl (by decide) rfl (fun ls hl => ?_)
      exact w_21  _ _ _ _ _  ()  N _ _  _ _ _ hP hD hS (lv_sub hl [3, 4, 5, 6, 2, 1, 0] rfl) h
    · have h := iq c_117 h
      refine lv_iconst (v := 1) hx hb dX0_tried_6 (by decide) ?_
      obtain rfl := Option.some.inj h
      exact wri hx hb hr hlocks hP hD hS (Nat.le_refl _) (Nat.le_refl _) rfl dX0_tried_7
def fX0_tryAllColours (N : Nat) (g_e : Int64) (x1 : Int32) : Option (Int32) := bd (fX0_tried N 16 g_e x1 0 0) (fun u_120 => some u_120)
set_option maxHeartbeats 4000000 in
set_option maxRecDepth 100000 in
theorem kX0_tryAllColours {l : Launch} {G : wG} (g0 : Nat) (g_e : Int64) (x1 : Int32) (N : Nat) (v : Int32) (h : fX0_tryAllColours N g_e x1 = some v) : wCi l G yX0_tryAllColours wsX0_tryAllColours ({ frames := 18, cells := 0, slots := 0, locals := 498 } : Room) [.ref g0, .int x1] (w_G G g0 g_e) (w_G G g0 g_e) 0 0 v := by
  refine wCi.mk (cc := cX0_tryAllColours) (maxL := 2) (ty := .int) (by decide) rfl (Nat.le_of_ble_eq_true rfl) ?_
  intro p e s m below meth c A ls hx hb hml hr hlocks hts hown hK hA hP hD hl
  have hx : p.tables.exec = Jvm.exec := hx
  have hown : s.vm.findClass RX0 = some m.cls := hown
  have hinX0 : ∀ w ∈ wsX00, w ∈ wsX0_tryAllColours := by decide +kernel
  have lk9 := hts (.fieldLink RX0 9 "Chamberwright$Graph" "edges" "J") (by decide +kernel)
  have hS : va_S A s.heap s.heap [] := va_S.rf
  have hP : va_P G.1 vwCl (w_G G g0 g_e) s.heap := hP
  have hD : va_D A (w_G G g0 g_e) := hD
  have hl : lv_has ls 2 [(0, .ref g0), (1, .int x1)] := hl
  obtain ⟨args, hargs⟩ : ∃ z : Array Value, z = ([.ref g0, .int x1] : List Value).toArray := ⟨_, rfl⟩
  rw [← hargs]
  rw [← hargs] at hts
  rw [fX0_tryAllColours.eq_1] at h
  refine lv_aload_n hx hb dX0_tryAllColours_0 rfl (lv_at hl 0 rfl) ?_
  refine va_get (D := G.1) (ci := 0) (v := .long g_e) (C := RX0) (T := TX0) (N := 1) hx hb hts hinX0 hown hK.1 hP 0 rfl rfl 0 (by decide) lk9 (fun _ h9 => h9) rfl dX0_tryAllColours_1 ?_
  refine lv_iload_n hx hb dX0_tryAllColours_4 rfl (lv_at hl 1 rfl) ?_
  refine lv_iconst (v := 0) hx hb dX0_tryAllColours_5 (by decide) ?_
  refine lv_lconst (v := 0) hx hb dX0_tryAllColours_6 (by decide) ?_
  obtain ⟨u_120, hc_121, h⟩ := bd_inv h
  refine wafter_i (wr := (w_G G g0 g_e)) (w2 := (w_G G g0 g_e)) (va_runS (As := [.long g_e, .int x1, .int 0, .long 0]) (rest := []) ⟨hx, hb, hml, hown, hts⟩ (kX0_tried (l := l) (G := G)   g_e x1 0 0 N 16 u_120 hc_121 _) (va_cwS 4 hts gX0_tryAllColours_X0_tried rfl rfl rfl (by decide +kernel) ⟨Nat.le_of_ble_eq_true rfl, Nat.le_of_ble_eq_true rfl⟩) (wPreS hP hD hK [] rfl rfl) rfl rfl hl.1 rfl (lv_room (Nat.le_of_ble_eq_true rfl)) dX0_tryAllColours_7 ⟨Nat.zero_le _, Nat.zero_le _⟩) hP hD hS hA [] [0] [0] rfl rfl rfl (by decide) rfl rfl (fun H locs hP hD hS => ?_)
  obtain rfl := Option.some.inj h
  exact wri hx hb hr hlocks hP hD hS (Nat.le_of_ble_eq_true rfl) (Nat.le_of_ble_eq_true rfl) rfl dX0_tryAllColours_10
def fX0_power_b4 (N : Nat) (x0 : Int32) (x1 : Int32) : Nat → Int32 → Int32 → Option (Int32)
  | 0, _, _ => none
  | n + 1, x2, x3 => if x1 ≤ x3 then some x2 else fX0_power_b4 N x0 x1 n (x2 * x0) (x3 + 1)
def fX0_power (N : Nat) (x0 : Int32) (x1 : Int32) : Option (Int32) := fX0_power_b4 N x0 x1 N 1 0
set_option maxHeartbeats 4000000 in
set_option maxRecDepth 100000 in
theorem kX0_power {l : Launch} {G : wG} (x0 : Int32) (x1 : Int32) (N : Nat) (v : Int32) (h : fX0_power N x0 x1 = some v) : wCi l G yX0_power wsX0_power ({ frames := 0, cells := 0, slots := 0, locals := 0 } : Room) [.int x0, .int x1] [] [] 0 0 v := by
  refine wCi.mk (cc := cX0_power) (maxL := 4) (ty := .int) (by decide) rfl (Nat.le_of_ble_eq_true rfl) ?_
  intro p e s m below meth c A ls hx hb hml hr hlocks hts hown hK hA hP hD hl
  have hx : p.tables.exec = Jvm.exec := hx
  have hown : s.vm.findClass RX0 = some m.cls := hown
  have hS : va_S A s.heap s.heap [] := va_S.rf
  have hP : va_P G.1 vwCl [] s.heap := hP
  have hD : va_D A [] := hD
  have hl : lv_has ls 4 [(0, .int x0), (1, .int x1)] := hl
  obtain ⟨args, hargs⟩ : ∃ z : Array Value, z = ([.int x0, .int x1] : List Value).toArray := ⟨_, rfl⟩
  rw [← hargs]
  rw [← hargs] at hts
  have w_4 : ∀ (x0 : Int32) (x1 : Int32)  (_z : Unit), ∀ (n : Nat) (x2 : Int32) (x3 : Int32)  (H : Heap) (locs : List Loc) (ls : Array Slot), va_P G.1 vwCl [] H → va_D A [] → va_S A s.heap H locs → lv_has ls 4 [(0, .int x0), (1, .int x1), (2, .int x2), (3, .int x3)] → fX0_power_b4 N x0 x1 n x2 x3 = some v → W p l e ({ frames := 0, cells := 0, slots := 0, locals := 0 } : Room) s m args below meth c H locs 0 0 (wQi G A below args s [] 0 0 v) (F0 m 4 ls []) := by
    intro x0 x1 _z n
    induction n with
    | zero =>
      intro x2 x3 H locs ls hP hD hS hl h
      rw [fX0_power_b4.eq_1] at h
      cases h
    | succ n ih =>
      intro x2 x3 H locs ls hP hD hS hl h
      rw [fX0_power_b4.eq_2] at h
      refine lv_iload_n hx hb dX0_power_4 rfl (lv_at hl 3 rfl) ?_
      refine lv_iload_n hx hb dX0_power_5 rfl (lv_at hl 1 rfl) ?_
      refine lv_icmp_ge (tgt := 19) hx hb dX0_power_6 (by decide) (fun c_122 => ?_) (fun c_122 => ?_)
      · have h := ip c_122 h
        refine lv_iload_n hx hb dX0_power_19 rfl (lv_at hl 2 rfl) ?_
        obtain rfl := Option.some.inj h
        exact wri hx hb hr hlocks hP hD hS (Nat.le_of_ble_eq_true rfl) (Nat.le_of_ble_eq_true rfl) rfl dX0_power_20
      · have h := iq c_122 h
        refine lv_iload_n hx hb dX0_power_9 rfl (lv_at hl 2 rfl) ?_
        refine lv_iload_n hx hb dX0_power_10 rfl (lv_at hl 0 rfl) ?_
        refine lv_imul hx hb dX0_power_11 ?_
        refine lv_istore_n (lv' := [(2, .int (x2 * x0)), (0, .int x0), (1, .int x1), (3, .int x3)]) hx hb dX0_power_12 rfl hl (by decide) rfl (fun ls hl => ?_)
        refine lv_iinc (v := (x3 + 1)) (lv' := [(3, .int (x3 + 1)), (2, .int (x2 * x0)), (0, .int x0), (1, .int x1)]) hx hb dX0_power_13 hl (k := 3) rfl rfl (by decide) rfl (fun ls hl => ?_)
        refine lv_goto (tgt := 4) hx hb dX0_power_16 (by decide) ?_
        exact ih _ _ _ _ _ hP hD hS (lv_sub hl [2, 3, 1, 0] rfl) h
  rw [fX0_power.eq_1] at h
  refine lv_iconst (v := 1) hx hb dX0_power_0 (by decide) ?_
  refine lv_istore_n (lv' := [(2, .int 1), (0, .int x0), (1, .int x1)]) hx hb dX0_power_1 rfl hl (by decide) rfl (fun ls hl => ?_)
  refine lv_iconst (v := 0) hx hb dX0_power_2 (by decide) ?_
  refine lv_istore_n (lv' := [(3, .int 0), (2, .int 1), (0, .int x0), (1, .int x1)]) hx hb dX0_power_3 rfl hl (by decide) rfl (fun ls hl => ?_)
  exact w_4  _ _  ()  N _ _  _ _ _ hP hD hS (lv_sub hl [2, 3, 1, 0] rfl) h
def fX0_firstWithEdge_b2 (N : Nat) (x0 : Int64) : Nat → Int32 → Option (Int32)
  | 0, _ => none
  | n + 1, x2 => if 5 ≤ x2 then some x2 else bd (fX0_row N x0 x2) (fun u_124 => if u_124 = 0 then fX0_firstWithEdge_b2 N x0 n (x2 + 1) else some x2)
def fX0_firstWithEdge (N : Nat) (x0 : Int64) : Option (Int32) := fX0_firstWithEdge_b2 N x0 N 0
set_option maxHeartbeats 4000000 in
set_option maxRecDepth 100000 in
theorem kX0_firstWithEdge {l : Launch} {G : wG} (x0 : Int64) (N : Nat) (v : Int32) (h : fX0_firstWithEdge N x0 = some v) : wCi l G yX0_firstWithEdge wsX0_firstWithEdge ({ frames := 1, cells := 0, slots := 0, locals := 22 } : Room) [.long x0] [] [] 0 0 v := by
  refine wCi.mk (cc := cX0_firstWithEdge) (maxL := 3) (ty := .int) (by decide) rfl (Nat.le_of_ble_eq_true rfl) ?_
  intro p e s m below meth c A ls hx hb hml hr hlocks hts hown hK hA hP hD hl
  have hx : p.tables.exec = Jvm.exec := hx
  have hown : s.vm.findClass RX0 = some m.cls := hown
  have hS : va_S A s.heap s.heap [] := va_S.rf
  have hP : va_P G.1 vwCl [] s.heap := hP
  have hD : va_D A [] := hD
  have hl : lv_has ls 3 [(0, .long x0)] := hl
  obtain ⟨args, hargs⟩ : ∃ z : Array Value, z = ([.long x0] : List Value).toArray := ⟨_, rfl⟩
  rw [← hargs]
  rw [← hargs] at hts
  have w_2 : ∀ (x0 : Int64)  (_z : Unit), ∀ (n : Nat) (x2 : Int32)  (H : Heap) (locs : List Loc) (ls : Array Slot), va_P G.1 vwCl [] H → va_D A [] → va_S A s.heap H locs → lv_has ls 3 [(0, .long x0), (2, .int x2)] → fX0_firstWithEdge_b2 N x0 n x2 = some v → W p l e ({ frames := 1, cells := 0, slots := 0, locals := 22 } : Room) s m args below meth c H locs 0 0 (wQi G A below args s [] 0 0 v) (F0 m 2 ls []) := by
    intro x0 _z n
    induction n with
    | zero =>
      intro x2 H locs ls hP hD hS hl h
      rw [fX0_firstWithEdge_b2.eq_1] at h
      cases h
    | succ n ih =>
      intro x2 H locs ls hP hD hS hl h
      rw [fX0_firstWithEdge_b2.eq_2] at h
      refine lv_iload_n hx hb dX0_firstWithEdge_2 rfl (lv_at hl 1 rfl) ?_
      refine lv_iconst (v := 5) hx hb dX0_firstWithEdge_3 (by decide) ?_
      refine lv_icmp_ge (tgt := 21) hx hb dX0_firstWithEdge_4 (by decide) (fun c_123 => ?_) (fun c_123 => ?_)
      · have h := ip c_123 h
        refine lv_iload_n hx hb dX0_firstWithEdge_21 rfl (lv_at hl 1 rfl) ?_
        obtain rfl := Option.some.inj h
        exact wri hx hb hr hlocks hP hD hS (Nat.le_of_ble_eq_true rfl) (Nat.le_of_ble_eq_true rfl) rfl dX0_firstWithEdge_22
      · have h := iq c_123 h
        refine lv_lload_n hx hb dX0_firstWithEdge_7 rfl (lv_at hl 0 rfl) ?_
        refine lv_iload_n hx hb dX0_firstWithEdge_8 rfl (lv_at hl 1 rfl) ?_
        obtain ⟨u_124, hc_125, h⟩ := bd_inv h
        refine wafter_i (wr := []) (w2 := []) (va_runS (As := [.long x0, .int x2]) (rest := []) ⟨hx, hb, hml, hown, hts⟩ (kX0_row (l := l) (G := G)   x0 x2 N u_124 hc_125 _) (va_cwS 2 hts gX0_firstWithEdge_X0_row rfl rfl rfl (by decide +kernel) ⟨Nat.le_of_ble_eq_true rfl, Nat.le_of_ble_eq_true rfl⟩) (wPreS hP hD hK [] rfl rfl) rfl rfl hl.1 rfl (lv_room (Nat.le_of_ble_eq_true rfl)) dX0_firstWithEdge_9 ⟨Nat.zero_le _, Nat.zero_le _⟩) hP hD hS hA [] [] [] rfl rfl rfl (by decide) rfl rfl (fun H locs hP hD hS => ?_)
        refine lv_if_ne (tgt := 21) hx hb dX0_firstWithEdge_12 (by decide) (fun c_126 => ?_) (fun c_126 => ?_)
        · have h := iq c_126 h
          refine lv_iload_n hx hb dX0_firstWithEdge_21 rfl (lv_at hl 1 rfl) ?_
          obtain rfl := Option.some.inj h
          exact wri hx hb hr hlocks hP hD hS (Nat.le_of_ble_eq_true rfl) (Nat.le_of_ble_eq_true rfl) rfl dX0_firstWithEdge_22
        · have h := ip c_126 h
          refine lv_iinc (v := (x2 + 1)) (lv' := [(2, .int (x2 + 1)), (0, .long x0)]) hx hb dX0_firstWithEdge_15 hl (k := 1) rfl rfl (by decide) rfl (fun ls hl => ?_)
          refine lv_goto (tgt := 2) hx hb dX0_firstWithEdge_18 (by decide) ?_
          exact ih _ _ _ _ hP hD hS (lv_sub hl [1, 0] rfl) h
  rw [fX0_firstWithEdge.eq_1] at h
  refine lv_iconst (v := 0) hx hb dX0_firstWithEdge_0 (by decide) ?_
  refine lv_istore_n (lv' := [(2, .int 0), (0, .long x0)]) hx hb dX0_firstWithEdge_1 rfl hl (by decide) rfl (fun ls hl => ?_)
  exact w_2  _  ()  N _  _ _ _ hP hD hS (lv_sub hl [1, 0] rfl) h
def fX0_firstIn_b2 (N : Nat) (x0 : Int32) : Nat → Int32 → Option (Int32)
  | 0, _ => none
  | n + 1, x1 => if 5 ≤ x1 then some x1 else bd (fX4_isIn N x0 x1) (fun u_128 => if u_128 = 0 then fX0_firstIn_b2 N x0 n (x1 + 1) else some x1)
def fX0_firstIn (N : Nat) (x0 : Int32) : Option (Int32) := fX0_firstIn_b2 N x0 N 0
set_option maxHeartbeats 4000000 in
set_option maxRecDepth 100000 in
theorem kX0_firstIn {l : Launch} {G : wG} (x0 : Int32) (N : Nat) (v : Int32) (h : fX0_firstIn N x0 = some v) : wCi l G yX0_firstIn wsX0_firstIn ({ frames := 2, cells := 0, slots := 0, locals := 41 } : Room) [.int x0] [] [] 0 0 v := by
  refine wCi.mk (cc := cX0_firstIn) (maxL := 2) (ty := .int) (by decide) rfl (Nat.le_of_ble_eq_true rfl) ?_
  intro p e s m below meth c A ls hx hb hml hr hlocks hts hown hK hA hP hD hl
  have hx : p.tables.exec = Jvm.exec := hx
  have hown : s.vm.findClass RX0 = some m.cls := hown
  have hS : va_S A s.heap s.heap [] := va_S.rf
  have hP : va_P G.1 vwCl [] s.heap := hP
  have hD : va_D A [] := hD
  have hl : lv_has ls 2 [(0, .int x0)] := hl
  obtain ⟨args, hargs⟩ : ∃ z : Array Value, z = ([.int x0] : List Value).toArray := ⟨_, rfl⟩
  rw [← hargs]
  rw [← hargs] at hts
  have w_2 : ∀ (x0 : Int32)  (_z : Unit), ∀ (n : Nat) (x1 : Int32)  (H : Heap) (locs : List Loc) (ls : Array Slot), va_P G.1 vwCl [] H → va_D A [] → va_S A s.heap H locs → lv_has ls 2 [(0, .int x0), (1, .int x1)] → fX0_firstIn_b2 N x0 n x1 = some v → W p l e ({ frames := 2, cells := 0, slots := 0, locals := 41 } : Room) s m args below meth c H locs 0 0 (wQi G A below args s [] 0 0 v) (F0 m 2 ls []) := by
    intro x0 _z n
    induction n with
    | zero =>
      intro x1 H locs ls hP hD hS hl h
      rw [fX0_firstIn_b2.eq_1] at h
      cases h
    | succ n ih =>
      intro x1 H locs ls hP hD hS hl h
      rw [fX0_firstIn_b2.eq_2] at h
      refine lv_iload_n hx hb dX0_firstIn_2 rfl (lv_at hl 1 rfl) ?_
      refine lv_iconst (v := 5) hx hb dX0_firstIn_3 (by decide) ?_
      refine lv_icmp_ge (tgt := 21) hx hb dX0_firstIn_4 (by decide) (fun c_127 => ?_) (fun c_127 => ?_)
      · have h := ip c_127 h
        refine lv_iload_n hx hb dX0_firstIn_21 rfl (lv_at hl 1 rfl) ?_
        obtain rfl := Option.some.inj h
        exact wri hx hb hr hlocks hP hD hS (Nat.le_of_ble_eq_true rfl) (Nat.le_of_ble_eq_true rfl) rfl dX0_firstIn_22
      · have h := iq c_127 h
        refine lv_iload_n hx hb dX0_firstIn_7 rfl (lv_at hl 0 rfl) ?_
        refine lv_iload_n hx hb dX0_firstIn_8 rfl (lv_at hl 1 rfl) ?_
        obtain ⟨u_128, hc_129, h⟩ := bd_inv h
        refine wafter_i (wr := []) (w2 := []) (va_runSN (As := [.int x0, .int x1]) (rest := []) ⟨hx, hb, hml, hown, hts⟩ (kX4_isIn (l := l) (G := G)   x0 x1 N u_128 hc_129 _) ⟨va_cnB 2 hts gX0_firstIn_X4_isIn_n61 rfl rfl rfl (hK.2 (.methodLinkNest RX0 61 yX4_isIn RX4) (by simp [wNest])) (hts (.initialized RX4) (by decide +kernel)) (by decide +kernel) ⟨Nat.le_of_ble_eq_true rfl, Nat.le_of_ble_eq_true rfl⟩, hts (.static yX4_isIn) (by decide +kernel), trivial⟩ (wPreS hP hD hK [] rfl rfl) rfl rfl hl.1 rfl (lv_room (Nat.le_of_ble_eq_true rfl)) dX0_firstIn_9 ⟨Nat.zero_le _, Nat.zero_le _⟩) hP hD hS hA [] [] [] rfl rfl rfl (by decide) rfl rfl (fun H locs hP hD hS => ?_)
        refine lv_if_ne (tgt := 21) hx hb dX0_firstIn_12 (by decide) (fun c_130 => ?_) (fun c_130 => ?_)
        · have h := iq c_130 h
          refine lv_iload_n hx hb dX0_firstIn_21 rfl (lv_at hl 1 rfl) ?_
          obtain rfl := Option.some.inj h
          exact wri hx hb hr hlocks hP hD hS (Nat.le_of_ble_eq_true rfl) (Nat.le_of_ble_eq_true rfl) rfl dX0_firstIn_22
        · have h := ip c_130 h
          refine lv_iinc (v := (x1 + 1)) (lv' := [(1, .int (x1 + 1)), (0, .int x0)]) hx hb dX0_firstIn_15 hl (k := 1) rfl rfl (by decide) rfl (fun ls hl => ?_)
          refine lv_goto (tgt := 2) hx hb dX0_firstIn_18 (by decide) ?_
          exact ih _ _ _ _ hP hD hS (lv_sub hl [1, 0] rfl) h
  rw [fX0_firstIn.eq_1] at h
  refine lv_iconst (v := 0) hx hb dX0_firstIn_0 (by decide) ?_
  refine lv_istore_n (lv' := [(1, .int 0), (0, .int x0)]) hx hb dX0_firstIn_1 rfl hl (by decide) rfl (fun ls hl => ?_)
  exact w_2  _  ()  N _  _ _ _ hP hD hS (lv_sub hl [1, 0] rfl) h
def fX0_madeOne_b6 (N : Nat) (x0 : Int64) (x2 : Int32) (x3 : Int32) : Nat → Int64 → Int32 → Option (Int64)
  | 0, _, _ => none
  | n + 1, x4, x6 => if 6 ≤ x6 then some x4 else bd (fX0_row N x0 x3) (fun u_132 => bd (fX4_isIn N u_132 x6) (fun u_134 => if u_134 = 0 then fX0_madeOne_b6 N x0 x2 x3 n x4 (x6 + 1) else bd (fX0_tie N x3 x6) (fun u_137 => bd (fX0_tie N x2 x6) (fun u_139 => nm ((x4 &&& (u_137 ^^^ -1)) ||| u_139) (fun x4_141 => fX0_madeOne_b6 N x0 x2 x3 n x4_141 (x6 + 1))))))
def fX0_madeOne (N : Nat) (x0 : Int64) (x2 : Int32) (x3 : Int32) : Option (Int64) := fX0_madeOne_b6 N x0 x2 x3 N x0 0
set_option maxHeartbeats 4000000 in
set_option maxRecDepth 100000 in
theorem kX0_madeOne {l : Launch} {G : wG} (x0 : Int64) (x2 : Int32) (x3 : Int32) (N : Nat) (v : Int64) (h : fX0_madeOne N x0 x2 x3 = some v) : wCl l G yX0_madeOne wsX0_madeOne ({ frames := 2, cells := 0, slots := 0, locals := 42 } : Room) [.long x0, .int x2, .int x3] [] [] 0 0 v := by
  refine wCl.mk (cc := cX0_madeOne) (maxL := 7) (ty := .long) (by decide) rfl (Nat.le_of_ble_eq_true rfl) ?_
  intro p e s m below meth c A ls hx hb hml hr hlocks hts hown hK hA hP hD hl
  have hx : p.tables.exec = Jvm.exec := hx
  have hown : s.vm.findClass RX0 = some m.cls := hown
  have hS : va_S A s.heap s.heap [] := va_S.rf
  have hP : va_P G.1 vwCl [] s.heap := hP
  have hD : va_D A [] := hD
  have hl : lv_has ls 7 [(0, .long x0), (2, .int x2), (3, .int x3)] := hl
  obtain ⟨args, hargs⟩ : ∃ z : Array Value, z = ([.long x0, .int x2, .int x3] : List Value).toArray := ⟨_, rfl⟩
  rw [← hargs]
  rw [← hargs] at hts
  have w_6 : ∀ (x0 : Int64) (x2 : Int32) (x3 : Int32)  (_z : Unit), ∀ (n : Nat) (x4 : Int64) (x6 : Int32)  (H : Heap) (locs : List Loc) (ls : Array Slot), va_P G.1 vwCl [] H → va_D A [] → va_S A s.heap H locs → lv_has ls 7 [(0, .long x0), (2, .int x2), (3, .int x3), (4, .long x4), (6, .int x6)] → fX0_madeOne_b6 N x0 x2 x3 n x4 x6 = some v → W p l e ({ frames := 2, cells := 0, slots := 0, locals := 42 } : Room) s m args below meth c H locs 0 0 (wQl G A below args s [] 0 0 v) (F0 m 6 ls []) := by
    intro x0 x2 x3 _z n
    induction n with
    | zero =>
      intro x4 x6 H locs ls hP hD hS hl h
      rw [fX0_madeOne_b6.eq_1] at h
      cases h
    | succ n ih =>
      intro x4 x6 H locs ls hP hD hS hl h
      rw [fX0_madeOne_b6.eq_2] at h
      refine lv_iload hx hb dX0_madeOne_6 (lv_at hl 4 rfl) ?_
      refine lv_bipush (v := 6) hx hb dX0_madeOne_8 (by decide) ?_
      refine lv_icmp_ge (tgt := 54) hx hb dX0_madeOne_10 (by decide) (fun c_131 => ?_) (fun c_131 => ?_)
      · have h := ip c_131 h
        refine lv_lload hx hb dX0_madeOne_54 (lv_at hl 3 rfl) ?_
        obtain rfl := Option.some.inj h
        exact wrl hx hb hr hlocks hP hD hS (Nat.le_of_ble_eq_true rfl) (Nat.le_of_ble_eq_true rfl) rfl dX0_madeOne_56
      · have h := iq c_131 h
        refine lv_lload_n hx hb dX0_madeOne_13 rfl (lv_at hl 0 rfl) ?_
        refine lv_iload_n hx hb dX0_madeOne_14 rfl (lv_at hl 2 rfl) ?_
        obtain ⟨u_132, hc_133, h⟩ := bd_inv h
        refine wafter_i (wr := []) (w2 := []) (va_runS (As := [.long x0, .int x3]) (rest := []) ⟨hx, hb, hml, hown, hts⟩ (kX0_row (l := l) (G := G)   x0 x3 N u_132 hc_133 _) (va_cwS 2 hts gX0_madeOne_X0_row rfl rfl rfl (by decide +kernel) ⟨Nat.le_of_ble_eq_true rfl, Nat.le_of_ble_eq_true rfl⟩) (wPreS hP hD hK [] rfl rfl) rfl rfl hl.1 rfl (lv_room (Nat.le_of_ble_eq_true rfl)) dX0_madeOne_15 ⟨Nat.zero_le _, Nat.zero_le _⟩) hP hD hS hA [] [] [] rfl rfl rfl (by decide) rfl rfl (fun H locs hP hD hS => ?_)
        refine lv_iload hx hb dX0_madeOne_18 (lv_at hl 4 rfl) ?_
        obtain ⟨u_134, hc_135, h⟩ := bd_inv h
        refine wafter_i (wr := []) (w2 := []) (va_runSN (As := [.int u_132, .int x6]) (rest := []) ⟨hx, hb, hml, hown, hts⟩ (kX4_isIn (l := l) (G := G)   u_132 x6 N u_134 hc_135 _) ⟨va_cnB 2 hts gX0_madeOne_X4_isIn_n61 rfl rfl rfl (hK.2 (.methodLinkNest RX0 61 yX4_isIn RX4) (by simp [wNest])) (hts (.initialized RX4) (by decide +kernel)) (by decide +kernel) ⟨Nat.le_of_ble_eq_true rfl, Nat.le_of_ble_eq_true rfl⟩, hts (.static yX4_isIn) (by decide +kernel), trivial⟩ (wPreS hP hD hK [] rfl rfl) rfl rfl hl.1 rfl (lv_room (Nat.le_of_ble_eq_true rfl)) dX0_madeOne_20 ⟨Nat.zero_le _, Nat.zero_le _⟩) hP hD hS hA [] [] [] rfl rfl rfl (by decide) rfl rfl (fun H locs hP hD hS => ?_)
        refine lv_if_eq (tgt := 48) hx hb dX0_madeOne_23 (by decide) (fun c_136 => ?_) (fun c_136 => ?_)
        · have h := ip c_136 h
          refine lv_iinc (v := (x6 + 1)) (lv' := [(6, .int (x6 + 1)), (0, .long x0), (2, .int x2), (3, .int x3), (4, .long x4)]) hx hb dX0_madeOne_48 hl (k := 4) rfl rfl (by decide) rfl (fun ls hl => ?_)
          refine lv_goto (tgt := 6) hx hb dX0_madeOne_51 (by decide) ?_
          exact ih _ _ _ _ _ hP hD hS (lv_sub hl [1, 2, 3, 4, 0] rfl) h
        · have h := iq c_136 h
          refine lv_lload hx hb dX0_madeOne_26 (lv_at hl 3 rfl) ?_
          refine lv_iload_n hx hb dX0_madeOne_28 rfl (lv_at hl 2 rfl) ?_
          refine lv_iload hx hb dX0_madeOne_29 (lv_at hl 4 rfl) ?_
          obtain ⟨u_137, hc_138, h⟩ := bd_inv h
          refine wafter_l (wr := []) (w2 := []) (va_runS (As := [.int x3, .int x6]) (rest := [.long x4]) ⟨hx, hb, hml, hown, hts⟩ (kX0_tie (l := l) (G := G)   x3 x6 N u_137 hc_138 _) (va_cwS 2 hts gX0_madeOne_X0_tie rfl rfl rfl (by decide +kernel) ⟨Nat.le_of_ble_eq_true rfl, Nat.le_of_ble_eq_true rfl⟩) (wPreS hP hD hK [] rfl rfl) rfl rfl hl.1 rfl (lv_room (Nat.le_of_ble_eq_true rfl)) dX0_madeOne_31 ⟨Nat.zero_le _, Nat.zero_le _⟩) hP hD hS hA [] [] [] rfl rfl rfl (by decide) rfl rfl (fun H locs hP hD hS => ?_)
          refine lv_ldc2 (v := -1) hx hb hown (hts (.constantLong RX0 55 (-1)) (by decide +kernel)) dX0_madeOne_34 ?_
          refine lv_lxor hx hb dX0_madeOne_37 ?_
          refine lv_land hx hb dX0_madeOne_38 ?_
          refine lv_iload_n hx hb dX0_madeOne_39 rfl (lv_at hl 1 rfl) ?_
          refine lv_iload hx hb dX0_madeOne_40 (lv_at hl 4 rfl) ?_
          obtain ⟨u_139, hc_140, h⟩ := bd_inv h
          refine wafter_l (wr := []) (w2 := []) (va_runS (As := [.int x2, .int x6]) (rest := [.long (x4 &&& (u_137 ^^^ -1))]) ⟨hx, hb, hml, hown, hts⟩ (kX0_tie (l := l) (G := G)   x2 x6 N u_139 hc_140 _) (va_cwS 2 hts gX0_madeOne_X0_tie rfl rfl rfl (by decide +kernel) ⟨Nat.le_of_ble_eq_true rfl, Nat.le_of_ble_eq_true rfl⟩) (wPreS hP hD hK [] rfl rfl) rfl rfl hl.1 rfl (lv_room (Nat.le_of_ble_eq_true rfl)) dX0_madeOne_42 ⟨Nat.zero_le _, Nat.zero_le _⟩) hP hD hS hA [] [] [] rfl rfl rfl (by decide) rfl rfl (fun H locs hP hD hS => ?_)
          refine lv_lor hx hb dX0_madeOne_45 ?_
          refine wnml h (fun x4_141 h => ?_)
          refine lv_lstore (lv' := [(4, .long x4_141), (0, .long x0), (2, .int x2), (3, .int x3), (6, .int x6)]) hx hb dX0_madeOne_46 hl (by decide) rfl (fun ls hl => ?_)
          refine lv_iinc (v := (x6 + 1)) (lv' := [(6, .int (x6 + 1)), (4, .long x4_141), (0, .long x0), (2, .int x2), (3, .int x3)]) hx hb dX0_madeOne_48 hl (k := 4) rfl rfl (by decide) rfl (fun ls hl => ?_)
          refine lv_goto (tgt := 6) hx hb dX0_madeOne_51 (by decide) ?_
          exact ih _ _ _ _ _ hP hD hS (lv_sub hl [2, 3, 4, 1, 0] rfl) h
  rw [fX0_madeOne.eq_1] at h
  refine lv_lload_n hx hb dX0_madeOne_0 rfl (lv_at hl 0 rfl) ?_
  refine lv_lstore (lv' := [(4, .long x0), (0, .long x0), (2, .int x2), (3, .int x3)]) hx hb dX0_madeOne_1 hl (by decide) rfl (fun ls hl => ?_)
  refine lv_iconst (v := 0) hx hb dX0_madeOne_3 (by decide) ?_
  refine lv_istore (lv' := [(6, .int 0), (4, .long x0), (0, .long x0), (2, .int x2), (3, .int x3)]) hx hb dX0_madeOne_4 hl (by decide) rfl (fun ls hl => ?_)
  exact w_6  _ _ _  ()  N _ _  _ _ _ hP hD hS (lv_sub hl [2, 3, 4, 1, 0] rfl) h
def fX0_apart_b13 (N : Nat) (self : Int64 → Int32 → Int32 → Int32 → Option (Int32)) (x2 : Int32) (x3 : Int32) : Option (Int32) := bd (fX0_power N x2 x3) (fun u_142 => some u_142)
def fX0_apart (N : Nat) : Nat → Int64 → Int32 → Int32 → Int32 → Option (Int32)
  | 0, _, _, _, _ => none
  | d + 1, x0, x2, x3, x4 => if (lg_cmp x0 0) = 0 then fX0_apart_b13 N (fX0_apart N d) x2 x3 else if x4 < 15 then bd (fX0_firstWithEdge N x0) (fun u_146 => bd (fX0_row N x0 u_146) (fun u_148 => bd (fX0_firstIn N u_148) (fun u_150 => bd (fX0_tie N u_146 u_150) (fun u_152 => bd ((fX0_apart N d) (x0 &&& (u_152 ^^^ -1)) x2 x3 (x4 + 1)) (fun u_154 => bd (fX0_madeOne N (x0 &&& (u_152 ^^^ -1)) u_146 u_150) (fun u_156 => bd ((fX0_apart N d) u_156 x2 (x3 - 1) (x4 + 1)) (fun u_158 => some ((u_154 - u_158))))))))) else fX0_apart_b13 N (fX0_apart N d) x2 x3
set_option maxHeartbeats 4000000 in
set_option maxRecDepth 100000 in
theorem kX0_apart {l : Launch} {G : wG} (x0 : Int64) (x2 : Int32) (x3 : Int32) (x4 : Int32) (N d : Nat) (v : Int32) (h : fX0_apart N d x0 x2 x3 x4 = some v) : wCi l G yX0_apart wsX0_apart ({ frames := 3 + d, cells := 0, slots := 0, locals := 68 + d * 28 } : Room) [.long x0, .int x2, .int x3, .int x4] [] [] 0 0 v := by
  induction d generalizing x0 x2 x3 x4 v with
  | zero =>
    rw [fX0_apart.eq_1] at h
    cases h
  | succ d ih0 =>
    have ihr := fun x0 x2 x3 x4 v h => ih0 x0 x2 x3 x4 v h
    refine wCi.mk (cc := cX0_apart) (maxL := 9) (ty := .int) (by decide) rfl (Nat.le_of_ble_eq_true rfl) ?_
    intro p e s m below meth c A ls hx hb hml hr hlocks hts hown hK hA hP hD hl
    have hx : p.tables.exec = Jvm.exec := hx
    have hown : s.vm.findClass RX0 = some m.cls := hown
    have hS : va_S A s.heap s.heap [] := va_S.rf
    have hP : va_P G.1 vwCl [] s.heap := hP
    have hD : va_D A [] := hD
    have hl : lv_has ls 9 [(0, .long x0), (2, .int x2), (3, .int x3), (4, .int x4)] := hl
    obtain ⟨args, hargs⟩ : ∃ z : Array Value, z = ([.long x0, .int x2, .int x3, .int x4] : List Value).toArray := ⟨_, rfl⟩
    rw [← hargs]
    rw [← hargs] at hts
    have w_13 : ∀ (x2 : Int32) (x3 : Int32)   (H : Heap) (locs : List Loc) (ls : Array Slot), va_P G.1 vwCl [] H → va_D A [] → va_S A s.heap H locs → lv_has ls 9 [(2, .int x2), (3, .int x3)] → fX0_apart_b13 N (fX0_apart N d) x2 x3 = some v → W p l e ({ frames := 3 + (d + 1), cells := 0, slots := 0, locals := 68 + (d + 1) * 28 } : Room) s m args below meth c H locs 0 0 (wQi G A below args s [] 0 0 v) (F0 m 13 ls []) := by
      intro x2 x3 H locs ls hP hD hS hl h
      rw [fX0_apart_b13.eq_1] at h
      refine lv_iload_n hx hb dX0_apart_13 rfl (lv_at hl 0 rfl) ?_
      refine lv_iload_n hx hb dX0_apart_14 rfl (lv_at hl 1 rfl) ?_
      obtain ⟨u_142, hc_143, h⟩ := bd_inv h
      refine wafter_i (wr := []) (w2 := []) (va_runS (As := [.int x2, .int x3]) (rest := []) ⟨hx, hb, hml, hown, hts⟩ (kX0_power (l := l) (G := G)   x2 x3 N u_142 hc_143 _) (va_cwS 2 hts gX0_apart_X0_power rfl rfl rfl (by decide +kernel) ⟨by simp only []; omega, by simp only []; omega⟩) (wPreS hP hD hK [] rfl rfl) rfl rfl hl.1 rfl (lv_room (Nat.le_of_ble_eq_true rfl)) dX0_apart_15 ⟨Nat.zero_le _, Nat.zero_le _⟩) hP hD hS hA [] [] [] rfl rfl rfl (by decide) rfl rfl (fun H locs hP hD hS => ?_)
      obtain rfl := Option.some.inj h
      exact wri hx hb hr hlocks hP hD hS (Nat.le_refl _) (Nat.le_refl _) rfl dX0_apart_18
    rw [fX0_apart.eq_2] at h
    refine lv_lload_n hx hb dX0_apart_0 rfl (lv_at hl 0 rfl) ?_
    refine lv_lconst (v := 0) hx hb dX0_apart_1 (by decide) ?_
    refine W.lcmp hx hb dX0_apart_2 ?_
    refine lv_if_eq (tgt := 13) hx hb dX0_apart_3 (by decide) (fun c_144 => ?_) (fun c_144 => ?_)
    · have h := ip c_144 h
      exact w_13  _ _   _ _ _  hP hD hS (lv_sub hl [1, 2] rfl) h
    · have h := iq c_144 h
      refine lv_iload hx hb dX0_apart_6 (lv_at hl 3 rfl) ?_
      refine lv_bipush (v := 15) hx hb dX0_apart_8 (by decide) ?_
      refine lv_icmp_lt (tgt := 19) hx hb dX0_apart_10 (by decide) (fun c_145 => ?_) (fun c_145 => ?_)
      · have h := ip c_145 h
        refine lv_lload_n hx hb dX0_apart_19 rfl (lv_at hl 0 rfl) ?_
        obtain ⟨u_146, hc_147, h⟩ := bd_inv h
        refine wafter_i (wr := []) (w2 := []) (va_runS (As := [.long x0]) (rest := []) ⟨hx, hb, hml, hown, hts⟩ (kX0_firstWithEdge (l := l) (G := G)   x0 N u_146 hc_147 _) (va_cwS 1 hts gX0_apart_X0_firstWithEdge rfl rfl rfl (by decide +kernel) ⟨by simp only []; omega, by simp only []; omega⟩) (wPreS hP hD hK [] rfl rfl) rfl rfl hl.1 rfl (lv_room (Nat.le_of_ble_eq_true rfl)) dX0_apart_20 ⟨Nat.zero_le _, Nat.zero_le _⟩) hP hD hS hA [] [] [] rfl rfl rfl (by decide) rfl rfl (fun H locs hP hD hS => ?_)
        refine lv_istore (lv' := [(5, .int u_146), (0, .long x0), (2, .int x2), (3, .int x3), (4, .int x4)]) hx hb dX0_apart_23 hl (by decide) rfl (fun ls hl => ?_)
        refine lv_lload_n hx hb dX0_apart_25 rfl (lv_at hl 1 rfl) ?_
        refine lv_iload hx hb dX0_apart_26 (lv_at hl 0 rfl) ?_
        obtain ⟨u_148, hc_149, h⟩ := bd_inv h
        refine wafter_i (wr := []) (w2 := []) (va_runS (As := [.long x0, .int u_146]) (rest := []) ⟨hx, hb, hml, hown, hts⟩ (kX0_row (l := l) (G := G)   x0 u_146 N u_148 hc_149 _) (va_cwS 2 hts gX0_apart_X0_row rfl rfl rfl (by decide +kernel) ⟨by simp only []; omega, by simp only []; omega⟩) (wPreS hP hD hK [] rfl rfl) rfl rfl hl.1 rfl (lv_room (Nat.le_of_ble_eq_true rfl)) dX0_apart_28 ⟨Nat.zero_le _, Nat.zero_le _⟩) hP hD hS hA [] [] [] rfl rfl rfl (by decide) rfl rfl (fun H locs hP hD hS => ?_)
        obtain ⟨u_150, hc_151, h⟩ := bd_inv h
        refine wafter_i (wr := []) (w2 := []) (va_runS (As := [.int u_148]) (rest := []) ⟨hx, hb, hml, hown, hts⟩ (kX0_firstIn (l := l) (G := G)   u_148 N u_150 hc_151 _) (va_cwS 1 hts gX0_apart_X0_firstIn rfl rfl rfl (by decide +kernel) ⟨by simp only []; omega, by simp only []; omega⟩) (wPreS hP hD hK [] rfl rfl) rfl rfl hl.1 rfl (lv_room (Nat.le_of_ble_eq_true rfl)) dX0_apart_31 ⟨Nat.zero_le _, Nat.zero_le _⟩) hP hD hS hA [] [] [] rfl rfl rfl (by decide) rfl rfl (fun H locs hP hD hS => ?_)
        refine lv_istore (lv' := [(6, .int u_150), (5, .int u_146), (0, .long x0), (2, .int x2), (3, .int x3), (4, .int x4)]) hx hb dX0_apart_34 hl (by decide) rfl (fun ls hl => ?_)
        refine lv_lload_n hx hb dX0_apart_36 rfl (lv_at hl 2 rfl) ?_
        refine lv_iload hx hb dX0_apart_37 (lv_at hl 1 rfl) ?_
        refine lv_iload hx hb dX0_apart_39 (lv_at hl 0 rfl) ?_
        obtain ⟨u_152, hc_153, h⟩ := bd_inv h
        refine wafter_l (wr := []) (w2 := []) (va_runS (As := [.int u_146, .int u_150]) (rest := [.long x0]) ⟨hx, hb, hml, hown, hts⟩ (kX0_tie (l := l) (G := G)   u_146 u_150 N u_152 hc_153 _) (va_cwS 2 hts gX0_apart_X0_tie rfl rfl rfl (by decide +kernel) ⟨by simp only []; omega, by simp only []; omega⟩) (wPreS hP hD hK [] rfl rfl) rfl rfl hl.1 rfl (lv_room (Nat.le_of_ble_eq_true rfl)) dX0_apart_41 ⟨Nat.zero_le _, Nat.zero_le _⟩) hP hD hS hA [] [] [] rfl rfl rfl (by decide) rfl rfl (fun H locs hP hD hS => ?_)
        refine lv_ldc2 (v := -1) hx hb hown (hts (.constantLong RX0 55 (-1)) (by decide +kernel)) dX0_apart_44 ?_
        refine lv_lxor hx hb dX0_apart_47 ?_
        refine lv_land hx hb dX0_apart_48 ?_
        refine lv_lstore (lv' := [(7, .long (x0 &&& (u_152 ^^^ -1))), (6, .int u_150), (5, .int u_146), (0, .long x0), (2, .int x2), (3, .int x3), (4, .int x4)]) hx hb dX0_apart_49 hl (by decide) rfl (fun ls hl => ?_)
        refine lv_lload hx hb dX0_apart_51 (lv_at hl 0 rfl) ?_
        refine lv_iload_n hx hb dX0_apart_53 rfl (lv_at hl 4 rfl) ?_
        refine lv_iload_n hx hb dX0_apart_54 rfl (lv_at hl 5 rfl) ?_
        refine lv_iload hx hb dX0_apart_55 (lv_at hl 6 rfl) ?_
        refine lv_iconst (v := 1) hx hb dX0_apart_57 (by decide) ?_
        refine lv_iadd hx hb dX0_apart_58 ?_
        obtain ⟨u_154, hc_155, h⟩ := bd_inv h
        refine wafter_i (wr := []) (w2 := []) (va_runS (As := [.long (x0 &&& (u_152 ^^^ -1)), .int x2, .int x3, .int (x4 + 1)]) (rest := []) ⟨hx, hb, hml, hown, hts⟩ (ihr   _ _ _ _ u_154 hc_155 _) (va_cwS 4 hts gX0_apart_X0_apart rfl rfl rfl (by decide +kernel) ⟨by simp only []; omega, by simp only []; omega⟩) (wPreS hP hD hK [] rfl rfl) rfl rfl hl.1 rfl (lv_room (Nat.le_of_ble_eq_true rfl)) dX0_apart_59 ⟨Nat.zero_le _, Nat.zero_le _⟩) hP hD hS hA [] [] [] rfl rfl rfl (by decide) rfl rfl (fun H locs hP hD hS => ?_)
        refine lv_lload hx hb dX0_apart_62 (lv_at hl 0 rfl) ?_
        refine lv_iload hx hb dX0_apart_64 (lv_at hl 2 rfl) ?_
        refine lv_iload hx hb dX0_apart_66 (lv_at hl 1 rfl) ?_
        obtain ⟨u_156, hc_157, h⟩ := bd_inv h
        refine wafter_l (wr := []) (w2 := []) (va_runS (As := [.long (x0 &&& (u_152 ^^^ -1)), .int u_146, .int u_150]) (rest := [.int u_154]) ⟨hx, hb, hml, hown, hts⟩ (kX0_madeOne (l := l) (G := G)   (x0 &&& (u_152 ^^^ -1)) u_146 u_150 N u_156 hc_157 _) (va_cwS 3 hts gX0_apart_X0_madeOne rfl rfl rfl (by decide +kernel) ⟨by simp only []; omega, by simp only []; omega⟩) (wPreS hP hD hK [] rfl rfl) rfl rfl hl.1 rfl (lv_room (Nat.le_of_ble_eq_true rfl)) dX0_apart_68 ⟨Nat.zero_le _, Nat.zero_le _⟩) hP hD hS hA [] [] [] rfl rfl rfl (by decide) rfl rfl (fun H locs hP hD hS => ?_)
        refine lv_iload_n hx hb dX0_apart_71 rfl (lv_at hl 4 rfl) ?_
        refine lv_iload_n hx hb dX0_apart_72 rfl (lv_at hl 5 rfl) ?_
        refine lv_iconst (v := 1) hx hb dX0_apart_73 (by decide) ?_
        refine lv_isub hx hb dX0_apart_74 ?_
        refine lv_iload hx hb dX0_apart_75 (lv_at hl 6 rfl) ?_
        refine lv_iconst (v := 1) hx hb dX0_apart_77 (by decide) ?_
        refine lv_iadd hx hb dX0_apart_78 ?_
        obtain ⟨u_158, hc_159, h⟩ := bd_inv h
        refine wafter_i (wr := []) (w2 := []) (va_runS (As := [.long u_156, .int x2, .int (x3 - 1), .int (x4 + 1)]) (rest := [.int u_154]) ⟨hx, hb, hml, hown, hts⟩ (ihr   _ _ _ _ u_158 hc_159 _) (va_cwS 4 hts gX0_apart_X0_apart rfl rfl rfl (by decide +kernel) ⟨by simp only []; omega, by simp only []; omega⟩) (wPreS hP hD hK [] rfl rfl) rfl rfl hl.1 rfl (lv_room (Nat.le_of_ble_eq_true rfl)) dX0_apart_79 ⟨Nat.zero_le _, Nat.zero_le _⟩) hP hD hS hA [] [] [] rfl rfl rfl (by decide) rfl rfl (fun H locs hP hD hS => ?_)
        refine lv_isub hx hb dX0_apart_82 ?_
        obtain rfl := Option.some.inj h
        exact wri hx hb hr hlocks hP hD hS (Nat.le_refl _) (Nat.le_refl _) rfl dX0_apart_83
      · have h := iq c_145 h
        exact w_13  _ _   _ _ _  hP hD hS (lv_sub hl [1, 2] rfl) h
def fX0_takeApart (N : Nat) (g_e : Int64) (x1 : Int32) : Option (Int32) := bd (fX0_apart N 16 g_e x1 6 0) (fun u_160 => some u_160)
set_option maxHeartbeats 4000000 in
set_option maxRecDepth 100000 in
theorem kX0_takeApart {l : Launch} {G : wG} (g0 : Nat) (g_e : Int64) (x1 : Int32) (N : Nat) (v : Int32) (h : fX0_takeApart N g_e x1 = some v) : wCi l G yX0_takeApart wsX0_takeApart ({ frames := 20, cells := 0, slots := 0, locals := 544 } : Room) [.ref g0, .int x1] (w_G G g0 g_e) (w_G G g0 g_e) 0 0 v := by
  refine wCi.mk (cc := cX0_takeApart) (maxL := 2) (ty := .int) (by decide) rfl (Nat.le_of_ble_eq_true rfl) ?_
  intro p e s m below meth c A ls hx hb hml hr hlocks hts hown hK hA hP hD hl
  have hx : p.tables.exec = Jvm.exec := hx
  have hown : s.vm.findClass RX0 = some m.cls := hown
  have hinX0 : ∀ w ∈ wsX00, w ∈ wsX0_takeApart := by decide +kernel
  have lk9 := hts (.fieldLink RX0 9 "Chamberwright$Graph" "edges" "J") (by decide +kernel)
  have hS : va_S A s.heap s.heap [] := va_S.rf
  have hP : va_P G.1 vwCl (w_G G g0 g_e) s.heap := hP
  have hD : va_D A (w_G G g0 g_e) := hD
  have hl : lv_has ls 2 [(0, .ref g0), (1, .int x1)] := hl
  obtain ⟨args, hargs⟩ : ∃ z : Array Value, z = ([.ref g0, .int x1] : List Value).toArray := ⟨_, rfl⟩
  rw [← hargs]
  rw [← hargs] at hts
  rw [fX0_takeApart.eq_1] at h
  refine lv_aload_n hx hb dX0_takeApart_0 rfl (lv_at hl 0 rfl) ?_
  refine va_get (D := G.1) (ci := 0) (v := .long g_e) (C := RX0) (T := TX0) (N := 1) hx hb hts hinX0 hown hK.1 hP 0 rfl rfl 0 (by decide) lk9 (fun _ h9 => h9) rfl dX0_takeApart_1 ?_
  refine lv_iload_n hx hb dX0_takeApart_4 rfl (lv_at hl 1 rfl) ?_
  refine lv_bipush (v := 6) hx hb dX0_takeApart_5 (by decide) ?_
  refine lv_iconst (v := 0) hx hb dX0_takeApart_7 (by decide) ?_
  obtain ⟨u_160, hc_161, h⟩ := bd_inv h
  refine wafter_i (wr := (w_G G g0 g_e)) (w2 := (w_G G g0 g_e)) (va_runS (As := [.long g_e, .int x1, .int 6, .int 0]) (rest := []) ⟨hx, hb, hml, hown, hts⟩ (kX0_apart (l := l) (G := G)   g_e x1 6 0 N 16 u_160 hc_161 _) (va_cwS 4 hts gX0_takeApart_X0_apart rfl rfl rfl (by decide +kernel) ⟨Nat.le_of_ble_eq_true rfl, Nat.le_of_ble_eq_true rfl⟩) (wPreS hP hD hK [] rfl rfl) rfl rfl hl.1 rfl (lv_room (Nat.le_of_ble_eq_true rfl)) dX0_takeApart_8 ⟨Nat.zero_le _, Nat.zero_le _⟩) hP hD hS hA [] [0] [0] rfl rfl rfl (by decide) rfl rfl (fun H locs hP hD hS => ?_)
  obtain rfl := Option.some.inj h
  exact wri hx hb hr hlocks hP hD hS (Nat.le_of_ble_eq_true rfl) (Nat.le_of_ble_eq_true rfl) rfl dX0_takeApart_11
def fX0_led_b18 (N : Nat) (x0 : Int64) (x2 : Int32) (x4 : Int32) : Nat → Int64 → Int32 → Option (Int64)
  | 0, _, _ => none
  | n + 1, x5, x7 => if 6 ≤ x7 then some x5 else if x7 = x2 then nm (x5 ||| (jLshl (Int32.toInt64 x4) (6 * x7))) (fun x5_164 => fX0_led_b18 N x0 x2 x4 n x5_164 (x7 + 1)) else bd (fX0_row N x0 x7) (fun u_165 => bd (fX4_isIn N u_165 x2) (fun u_167 => if u_167 = 0 then fX0_led_b18 N x0 x2 x4 n x5 (x7 + 1) else nm (x5 ||| (jLshl (Int32.toInt64 x4) (6 * x7))) (fun x5_170 => fX0_led_b18 N x0 x2 x4 n x5_170 (x7 + 1))))
def fX0_led (N : Nat) (x0 : Int64) (x2 : Int32) (x3 : Int32) : Option (Int64) := bd (fX0_row N x0 x3) (fun u_171 => bd (fX4_bit N x3) (fun u_173 => fX0_led_b18 N x0 x2 (u_171 ||| u_173) N x0 0))
set_option maxHeartbeats 4000000 in
set_option maxRecDepth 100000 in
theorem kX0_led {l : Launch} {G : wG} (x0 : Int64) (x2 : Int32) (x3 : Int32) (N : Nat) (v : Int64) (h : fX0_led N x0 x2 x3 = some v) : wCl l G yX0_led wsX0_led ({ frames := 2, cells := 0, slots := 0, locals := 41 } : Room) [.long x0, .int x2, .int x3] [] [] 0 0 v := by
  refine wCl.mk (cc := cX0_led) (maxL := 8) (ty := .long) (by decide) rfl (Nat.le_of_ble_eq_true rfl) ?_
  intro p e s m below meth c A ls hx hb hml hr hlocks hts hown hK hA hP hD hl
  have hx : p.tables.exec = Jvm.exec := hx
  have hown : s.vm.findClass RX0 = some m.cls := hown
  have hS : va_S A s.heap s.heap [] := va_S.rf
  have hP : va_P G.1 vwCl [] s.heap := hP
  have hD : va_D A [] := hD
  have hl : lv_has ls 8 [(0, .long x0), (2, .int x2), (3, .int x3)] := hl
  obtain ⟨args, hargs⟩ : ∃ z : Array Value, z = ([.long x0, .int x2, .int x3] : List Value).toArray := ⟨_, rfl⟩
  rw [← hargs]
  rw [← hargs] at hts
  have w_18 : ∀ (x0 : Int64) (x2 : Int32) (x4 : Int32)  (_z : Unit), ∀ (n : Nat) (x5 : Int64) (x7 : Int32)  (H : Heap) (locs : List Loc) (ls : Array Slot), va_P G.1 vwCl [] H → va_D A [] → va_S A s.heap H locs → lv_has ls 8 [(0, .long x0), (2, .int x2), (4, .int x4), (5, .long x5), (7, .int x7)] → fX0_led_b18 N x0 x2 x4 n x5 x7 = some v → W p l e ({ frames := 2, cells := 0, slots := 0, locals := 41 } : Room) s m args below meth c H locs 0 0 (wQl G A below args s [] 0 0 v) (F0 m 18 ls []) := by
    intro x0 x2 x4 _z n
    induction n with
    | zero =>
      intro x5 x7 H locs ls hP hD hS hl h
      rw [fX0_led_b18.eq_1] at h
      cases h
    | succ n ih =>
      intro x5 x7 H locs ls hP hD hS hl h
      rw [fX0_led_b18.eq_2] at h
      refine lv_iload hx hb dX0_led_18 (lv_at hl 4 rfl) ?_
      refine lv_bipush (v := 6) hx hb dX0_led_20 (by decide) ?_
      refine lv_icmp_ge (tgt := 64) hx hb dX0_led_22 (by decide) (fun c_162 => ?_) (fun c_162 => ?_)
      · have h := ip c_162 h
        refine lv_lload hx hb dX0_led_64 (lv_at hl 3 rfl) ?_
        obtain rfl := Option.some.inj h
        exact wrl hx hb hr hlocks hP hD hS (Nat.le_of_ble_eq_true rfl) (Nat.le_of_ble_eq_true rfl) rfl dX0_led_66
      · have h := iq c_162 h
        refine lv_iload hx hb dX0_led_25 (lv_at hl 4 rfl) ?_
        refine lv_iload_n hx hb dX0_led_27 rfl (lv_at hl 1 rfl) ?_
        refine lv_icmp_eq (tgt := 44) hx hb dX0_led_28 (by decide) (fun c_163 => ?_) (fun c_163 => ?_)
        · have h := ip c_163 h
          refine lv_lload hx hb dX0_led_44 (lv_at hl 3 rfl) ?_
          refine lv_iload hx hb dX0_led_46 (lv_at hl 2 rfl) ?_
          refine lv_i2l hx hb dX0_led_48 rfl ?_
          refine lv_bipush (v := 6) hx hb dX0_led_49 (by decide) ?_
          refine lv_iload hx hb dX0_led_51 (lv_at hl 4 rfl) ?_
          refine lv_imul hx hb dX0_led_53 ?_
          refine lv_lshl (v := (jLshl (Int32.toInt64 x4) (6 * x7))) hx hb dX0_led_54 rfl ?_
          refine lv_lor hx hb dX0_led_55 ?_
          refine wnml h (fun x5_164 h => ?_)
          refine lv_lstore (lv' := [(5, .long x5_164), (0, .long x0), (2, .int x2), (4, .int x4), (7, .int x7)]) hx hb dX0_led_56 hl (by decide) rfl (fun ls hl => ?_)
          refine lv_iinc (v := (x7 + 1)) (lv' := [(7, .int (x7 + 1)), (5, .long x5_164), (0, .long x0), (2, .int x2), (4, .int x4)]) hx hb dX0_led_58 hl (k := 4) rfl rfl (by decide) rfl (fun ls hl => ?_)
          refine lv_goto (tgt := 18) hx hb dX0_led_61 (by decide) ?_
          exact ih _ _ _ _ _ hP hD hS (lv_sub hl [2, 3, 4, 1, 0] rfl) h
        · have h := iq c_163 h
          refine lv_lload_n hx hb dX0_led_31 rfl (lv_at hl 0 rfl) ?_
          refine lv_iload hx hb dX0_led_32 (lv_at hl 4 rfl) ?_
          obtain ⟨u_165, hc_166, h⟩ := bd_inv h
          refine wafter_i (wr := []) (w2 := []) (va_runS (As := [.long x0, .int x7]) (rest := []) ⟨hx, hb, hml, hown, hts⟩ (kX0_row (l := l) (G := G)   x0 x7 N u_165 hc_166 _) (va_cwS 2 hts gX0_led_X0_row rfl rfl rfl (by decide +kernel) ⟨Nat.le_of_ble_eq_true rfl, Nat.le_of_ble_eq_true rfl⟩) (wPreS hP hD hK [] rfl rfl) rfl rfl hl.1 rfl (lv_room (Nat.le_of_ble_eq_true rfl)) dX0_led_34 ⟨Nat.zero_le _, Nat.zero_le _⟩) hP hD hS hA [] [] [] rfl rfl rfl (by decide) rfl rfl (fun H locs hP hD hS => ?_)
          refine lv_iload_n hx hb dX0_led_37 rfl (lv_at hl 1 rfl) ?_
          obtain ⟨u_167, hc_168, h⟩ := bd_inv h
          refine wafter_i (wr := []) (w2 := []) (va_runSN (As := [.int u_165, .int x2]) (rest := []) ⟨hx, hb, hml, hown, hts⟩ (kX4_isIn (l := l) (G := G)   u_165 x2 N u_167 hc_168 _) ⟨va_cnB 2 hts gX0_led_X4_isIn_n61 rfl rfl rfl (hK.2 (.methodLinkNest RX0 61 yX4_isIn RX4) (by simp [wNest])) (hts (.initialized RX4) (by decide +kernel)) (by decide +kernel) ⟨Nat.le_of_ble_eq_true rfl, Nat.le_of_ble_eq_true rfl⟩, hts (.static yX4_isIn) (by decide +kernel), trivial⟩ (wPreS hP hD hK [] rfl rfl) rfl rfl hl.1 rfl (lv_room (Nat.le_of_ble_eq_true rfl)) dX0_led_38 ⟨Nat.zero_le _, Nat.zero_le _⟩) hP hD hS hA [] [] [] rfl rfl rfl (by decide) rfl rfl (fun H locs hP hD hS => ?_)
          refine lv_if_eq (tgt := 58) hx hb dX0_led_41 (by decide) (fun c_169 => ?_) (fun c_169 => ?_)
          · have h := ip c_169 h
            refine lv_iinc (v := (x7 + 1)) (lv' := [(7, .int (x7 + 1)), (0, .long x0), (2, .int x2), (4, .int x4), (5, .long x5)]) hx hb dX0_led_58 hl (k := 4) rfl rfl (by decide) rfl (fun ls hl => ?_)
            refine lv_goto (tgt := 18) hx hb dX0_led_61 (by decide) ?_
            exact ih _ _ _ _ _ hP hD hS (lv_sub hl [1, 2, 3, 4, 0] rfl) h
          · have h := iq c_169 h
            refine lv_lload hx hb dX0_led_44 (lv_at hl 3 rfl) ?_
            refine lv_iload hx hb dX0_led_46 (lv_at hl 2 rfl) ?_
            refine lv_i2l hx hb dX0_led_48 rfl ?_
            refine lv_bipush (v := 6) hx hb dX0_led_49 (by decide) ?_
            refine lv_iload hx hb dX0_led_51 (lv_at hl 4 rfl) ?_
            refine lv_imul hx hb dX0_led_53 ?_
            refine lv_lshl (v := (jLshl (Int32.toInt64 x4) (6 * x7))) hx hb dX0_led_54 rfl ?_
            refine lv_lor hx hb dX0_led_55 ?_
            refine wnml h (fun x5_170 h => ?_)
            refine lv_lstore (lv' := [(5, .long x5_170), (0, .long x0), (2, .int x2), (4, .int x4), (7, .int x7)]) hx hb dX0_led_56 hl (by decide) rfl (fun ls hl => ?_)
            refine lv_iinc (v := (x7 + 1)) (lv' := [(7, .int (x7 + 1)), (5, .long x5_170), (0, .long x0), (2, .int x2), (4, .int x4)]) hx hb dX0_led_58 hl (k := 4) rfl rfl (by decide) rfl (fun ls hl => ?_)
            refine lv_goto (tgt := 18) hx hb dX0_led_61 (by decide) ?_
            exact ih _ _ _ _ _ hP hD hS (lv_sub hl [2, 3, 4, 1, 0] rfl) h
  rw [fX0_led.eq_1] at h
  refine lv_lload_n hx hb dX0_led_0 rfl (lv_at hl 0 rfl) ?_
  refine lv_iload_n hx hb dX0_led_1 rfl (lv_at hl 2 rfl) ?_
  obtain ⟨u_171, hc_172, h⟩ := bd_inv h
  refine wafter_i (wr := []) (w2 := []) (va_runS (As := [.long x0, .int x3]) (rest := []) ⟨hx, hb, hml, hown, hts⟩ (kX0_row (l := l) (G := G)   x0 x3 N u_171 hc_172 _) (va_cwS 2 hts gX0_led_X0_row rfl rfl rfl (by decide +kernel) ⟨Nat.le_of_ble_eq_true rfl, Nat.le_of_ble_eq_true rfl⟩) (wPreS hP hD hK [] rfl rfl) rfl rfl hl.1 rfl (lv_room (Nat.le_of_ble_eq_true rfl)) dX0_led_2 ⟨Nat.zero_le _, Nat.zero_le _⟩) hP hD hS hA [] [] [] rfl rfl rfl (by decide) rfl rfl (fun H locs hP hD hS => ?_)
  refine lv_iload_n hx hb dX0_led_5 rfl (lv_at hl 2 rfl) ?_
  obtain ⟨u_173, hc_174, h⟩ := bd_inv h
  refine wafter_i (wr := []) (w2 := []) (va_runSN (As := [.int x3]) (rest := [.int u_171]) ⟨hx, hb, hml, hown, hts⟩ (kX4_bit (l := l) (G := G)   x3 N u_173 hc_174 _) ⟨va_cnB 1 hts gX0_led_X4_bit_n68 rfl rfl rfl (hK.2 (.methodLinkNest RX0 68 yX4_bit RX4) (by simp [wNest])) (hts (.initialized RX4) (by decide +kernel)) (by decide +kernel) ⟨Nat.le_of_ble_eq_true rfl, Nat.le_of_ble_eq_true rfl⟩, hts (.static yX4_bit) (by decide +kernel), trivial⟩ (wPreS hP hD hK [] rfl rfl) rfl rfl hl.1 rfl (lv_room (Nat.le_of_ble_eq_true rfl)) dX0_led_6 ⟨Nat.zero_le _, Nat.zero_le _⟩) hP hD hS hA [] [] [] rfl rfl rfl (by decide) rfl rfl (fun H locs hP hD hS => ?_)
  refine lv_ior hx hb dX0_led_9 ?_
  refine lv_istore (lv' := [(4, .int (u_171 ||| u_173)), (0, .long x0), (2, .int x2), (3, .int x3)]) hx hb dX0_led_10 hl (by decide) rfl (fun ls hl => ?_)
  refine lv_lload_n hx hb dX0_led_12 rfl (lv_at hl 1 rfl) ?_
  refine lv_lstore (lv' := [(5, .long x0), (4, .int (u_171 ||| u_173)), (0, .long x0), (2, .int x2), (3, .int x3)]) hx hb dX0_led_13 hl (by decide) rfl (fun ls hl => ?_)
  refine lv_iconst (v := 0) hx hb dX0_led_15 (by decide) ?_
  refine lv_istore (lv' := [(7, .int 0), (5, .long x0), (4, .int (u_171 ||| u_173)), (0, .long x0), (2, .int x2), (3, .int x3)]) hx hb dX0_led_16 hl (by decide) rfl (fun ls hl => ?_)
  exact w_18  _ _ _  ()  N _ _  _ _ _ hP hD hS (lv_sub hl [3, 4, 2, 1, 0] rfl) h
def fX0_directed_b84 (N : Nat) (self : Int64 → Int32 → Int64 → Option (Int32)) (x2 : Int32) (x3 : Int64) (x5 : Int32) (x6 : Int32) (x7 : Int64) (x9 : Int32) : Option (Int32) := bd (fX0_row N x3 x5) (fun u_175 => bd (fX4_isIn N u_175 x6) (fun u_177 => if u_177 = 0 then bd (fX0_led N x3 x6 x5) (fun u_180 => bd (self x7 (x2 + 1) u_180) (fun u_182 => some ((x9 + u_182)))) else some x9))
def fX0_directed (N : Nat) : Nat → Int64 → Int32 → Int64 → Option (Int32)
  | 0, _, _, _ => none
  | d + 1, x0, x2, x3 => if (lg_cmp x0 0) = 0 then some 1 else if x2 < 15 then bd (fX0_firstWithEdge N x0) (fun u_186 => bd (fX0_row N x0 u_186) (fun u_188 => bd (fX0_firstIn N u_188) (fun u_190 => bd (fX0_tie N u_186 u_190) (fun u_192 => bd (fX0_row N x3 u_190) (fun u_194 => bd (fX4_isIn N u_194 u_186) (fun u_196 => if u_196 = 0 then bd (fX0_led N x3 u_186 u_190) (fun u_199 => bd ((fX0_directed N d) (x0 &&& (u_192 ^^^ -1)) (x2 + 1) u_199) (fun u_201 => fX0_directed_b84 N (fX0_directed N d) x2 x3 u_186 u_190 (x0 &&& (u_192 ^^^ -1)) (0 + u_201))) else fX0_directed_b84 N (fX0_directed N d) x2 x3 u_186 u_190 (x0 &&& (u_192 ^^^ -1)) 0)))))) else some 1
set_option maxHeartbeats 4000000 in
set_option maxRecDepth 100000 in
theorem kX0_directed {l : Launch} {G : wG} (x0 : Int64) (x2 : Int32) (x3 : Int64) (N d : Nat) (v : Int32) (h : fX0_directed N d x0 x2 x3 = some v) : wCi l G yX0_directed wsX0_directed ({ frames := 3 + d, cells := 0, slots := 0, locals := 68 + d * 29 } : Room) [.long x0, .int x2, .long x3] [] [] 0 0 v := by
  induction d generalizing x0 x2 x3 v with
  | zero =>
    rw [fX0_directed.eq_1] at h
    cases h
  | succ d ih0 =>
    have ihr := fun x0 x2 x3 v h => ih0 x0 x2 x3 v h
    refine wCi.mk (cc := cX0_directed) (maxL := 10) (ty := .int) (by decide) rfl (Nat.le_of_ble_eq_true rfl) ?_
    intro p e s m below meth c A ls hx hb hml hr hlocks hts hown hK hA hP hD hl
    have hx : p.tables.exec = Jvm.exec := hx
    have hown : s.vm.findClass RX0 = some m.cls := hown
    have hS : va_S A s.heap s.heap [] := va_S.rf
    have hP : va_P G.1 vwCl [] s.heap := hP
    have hD : va_D A [] := hD
    have hl : lv_has ls 10 [(0, .long x0), (2, .int x2), (3, .long x3)] := hl
    obtain ⟨args, hargs⟩ : ∃ z : Array Value, z = ([.long x0, .int x2, .long x3] : List Value).toArray := ⟨_, rfl⟩
    rw [← hargs]
    rw [← hargs] at hts
    have w_84 : ∀ (x2 : Int32) (x3 : Int64) (x5 : Int32) (x6 : Int32) (x7 : Int64) (x9 : Int32)   (H : Heap) (locs : List Loc) (ls : Array Slot), va_P G.1 vwCl [] H → va_D A [] → va_S A s.heap H locs → lv_has ls 10 [(2, .int x2), (3, .long x3), (5, .int x5), (6, .int x6), (7, .long x7), (9, .int x9)] → fX0_directed_b84 N (fX0_directed N d) x2 x3 x5 x6 x7 x9 = some v → W p l e ({ frames := 3 + (d + 1), cells := 0, slots := 0, locals := 68 + (d + 1) * 29 } : Room) s m args below meth c H locs 0 0 (wQi G A below args s [] 0 0 v) (F0 m 84 ls []) := by
      intro x2 x3 x5 x6 x7 x9 H locs ls hP hD hS hl h
      rw [fX0_directed_b84.eq_1] at h
      refine lv_lload_n hx hb dX0_directed_84 rfl (lv_at hl 1 rfl) ?_
      refine lv_iload hx hb dX0_directed_85 (lv_at hl 2 rfl) ?_
      obtain ⟨u_175, hc_176, h⟩ := bd_inv h
      refine wafter_i (wr := []) (w2 := []) (va_runS (As := [.long x3, .int x5]) (rest := []) ⟨hx, hb, hml, hown, hts⟩ (kX0_row (l := l) (G := G)   x3 x5 N u_175 hc_176 _) (va_cwS 2 hts gX0_directed_X0_row rfl rfl rfl (by decide +kernel) ⟨by simp only []; omega, by simp only []; omega⟩) (wPreS hP hD hK [] rfl rfl) rfl rfl hl.1 rfl (lv_room (Nat.le_of_ble_eq_true rfl)) dX0_directed_87 ⟨Nat.zero_le _, Nat.zero_le _⟩) hP hD hS hA [] [] [] rfl rfl rfl (by decide) rfl rfl (fun H locs hP hD hS => ?_)
      refine lv_iload hx hb dX0_directed_90 (lv_at hl 3 rfl) ?_
      obtain ⟨u_177, hc_178, h⟩ := bd_inv h
      refine wafter_i (wr := []) (w2 := []) (va_runSN (As := [.int u_175, .int x6]) (rest := []) ⟨hx, hb, hml, hown, hts⟩ (kX4_isIn (l := l) (G := G)   u_175 x6 N u_177 hc_178 _) ⟨va_cnB 2 hts gX0_directed_X4_isIn_n61 rfl rfl rfl (hK.2 (.methodLinkNest RX0 61 yX4_isIn RX4) (by simp [wNest])) (hts (.initialized RX4) (by decide +kernel)) (by decide +kernel) ⟨by simp only []; omega, by simp only []; omega⟩, hts (.static yX4_isIn) (by decide +kernel), trivial⟩ (wPreS hP hD hK [] rfl rfl) rfl rfl hl.1 rfl (lv_room (Nat.le_of_ble_eq_true rfl)) dX0_directed_92 ⟨Nat.zero_le _, Nat.zero_le _⟩) hP hD hS hA [] [] [] rfl rfl rfl (by decide) rfl rfl (fun H locs hP hD hS => ?_)
      refine lv_if_ne (tgt := 119) hx hb dX0_directed_95 (by decide) (fun c_179 => ?_) (fun c_179 => ?_)
      · have h := iq c_179 h
        refine lv_iload hx hb dX0_directed_119 (lv_at hl 5 rfl) ?_
        obtain rfl := Option.some.inj h
        exact wri hx hb hr hlocks hP hD hS (Nat.le_refl _) (Nat.le_refl _) rfl dX0_directed_121
      · have h := ip c_179 h
        refine lv_iload hx hb dX0_directed_98 (lv_at hl 5 rfl) ?_
        refine lv_lload hx hb dX0_directed_100 (lv_at hl 4 rfl) ?_
        refine lv_iload_n hx hb dX0_directed_102 rfl (lv_at hl 0 rfl) ?_
        refine lv_iconst (v := 1) hx hb dX0_directed_103 (by decide) ?_
        refine lv_iadd hx hb dX0_directed_104 ?_
        refine lv_lload_n hx hb dX0_directed_105 rfl (lv_at hl 1 rfl) ?_
        refine lv_iload hx hb dX0_directed_106 (lv_at hl 3 rfl) ?_
        refine lv_iload hx hb dX0_directed_108 (lv_at hl 2 rfl) ?_
        obtain ⟨u_180, hc_181, h⟩ := bd_inv h
        refine wafter_l (wr := []) (w2 := []) (va_runS (As := [.long x3, .int x6, .int x5]) (rest := [.int (x2 + 1), .long x7, .int x9]) ⟨hx, hb, hml, hown, hts⟩ (kX0_led (l := l) (G := G)   x3 x6 x5 N u_180 hc_181 _) (va_cwS 3 hts gX0_directed_X0_led rfl rfl rfl (by decide +kernel) ⟨by simp only []; omega, by simp only []; omega⟩) (wPreS hP hD hK [] rfl rfl) rfl rfl hl.1 rfl (lv_room (Nat.le_of_ble_eq_true rfl)) dX0_directed_110 ⟨Nat.zero_le _, Nat.zero_le _⟩) hP hD hS hA [] [] [] rfl rfl rfl (by decide) rfl rfl (fun H locs hP hD hS => ?_)
        obtain ⟨u_182, hc_183, h⟩ := bd_inv h
        refine wafter_i (wr := []) (w2 := []) (va_runS (As := [.long x7, .int (x2 + 1), .long u_180]) (rest := [.int x9]) ⟨hx, hb, hml, hown, hts⟩ (ihr   _ _ _ u_182 hc_183 _) (va_cwS 3 hts gX0_directed_X0_directed rfl rfl rfl (by decide +kernel) ⟨by simp only []; omega, by simp only []; omega⟩) (wPreS hP hD hK [] rfl rfl) rfl rfl hl.1 rfl (lv_room (Nat.le_of_ble_eq_true rfl)) dX0_directed_113 ⟨Nat.zero_le _, Nat.zero_le _⟩) hP hD hS hA [] [] [] rfl rfl rfl (by decide) rfl rfl (fun H locs hP hD hS => ?_)
        refine lv_iadd hx hb dX0_directed_116 ?_
        refine lv_istore (lv' := [(9, .int (x9 + u_182)), (2, .int x2), (3, .long x3), (5, .int x5), (6, .int x6), (7, .long x7)]) hx hb dX0_directed_117 hl (by decide) rfl (fun ls hl => ?_)
        refine lv_iload hx hb dX0_directed_119 (lv_at hl 0 rfl) ?_
        obtain rfl := Option.some.inj h
        exact wri hx hb hr hlocks hP hD hS (Nat.le_refl _) (Nat.le_refl _) rfl dX0_directed_121
    rw [fX0_directed.eq_2] at h
    refine lv_lload_n hx hb dX0_directed_0 rfl (lv_at hl 0 rfl) ?_
    refine lv_lconst (v := 0) hx hb dX0_directed_1 (by decide) ?_
    refine W.lcmp hx hb dX0_directed_2 ?_
    refine lv_if_eq (tgt := 12) hx hb dX0_directed_3 (by decide) (fun c_184 => ?_) (fun c_184 => ?_)
    · have h := ip c_184 h
      refine lv_iconst (v := 1) hx hb dX0_directed_12 (by decide) ?_
      obtain rfl := Option.some.inj h
      exact wri hx hb hr hlocks hP hD hS (Nat.le_refl _) (Nat.le_refl _) rfl dX0_directed_13
    · have h := iq c_184 h
      refine lv_iload_n hx hb dX0_directed_6 rfl (lv_at hl 1 rfl) ?_
      refine lv_bipush (v := 15) hx hb dX0_directed_7 (by decide) ?_
      refine lv_icmp_lt (tgt := 14) hx hb dX0_directed_9 (by decide) (fun c_185 => ?_) (fun c_185 => ?_)
      · have h := ip c_185 h
        refine lv_lload_n hx hb dX0_directed_14 rfl (lv_at hl 0 rfl) ?_
        obtain ⟨u_186, hc_187, h⟩ := bd_inv h
        refine wafter_i (wr := []) (w2 := []) (va_runS (As := [.long x0]) (rest := []) ⟨hx, hb, hml, hown, hts⟩ (kX0_firstWithEdge (l := l) (G := G)   x0 N u_186 hc_187 _) (va_cwS 1 hts gX0_directed_X0_firstWithEdge rfl rfl rfl (by decide +kernel) ⟨by simp only []; omega, by simp only []; omega⟩) (wPreS hP hD hK [] rfl rfl) rfl rfl hl.1 rfl (lv_room (Nat.le_of_ble_eq_true rfl)) dX0_directed_15 ⟨Nat.zero_le _, Nat.zero_le _⟩) hP hD hS hA [] [] [] rfl rfl rfl (by decide) rfl rfl (fun H locs hP hD hS => ?_)
        refine lv_istore (lv' := [(5, .int u_186), (0, .long x0), (2, .int x2), (3, .long x3)]) hx hb dX0_directed_18 hl (by decide) rfl (fun ls hl => ?_)
        refine lv_lload_n hx hb dX0_directed_20 rfl (lv_at hl 1 rfl) ?_
        refine lv_iload hx hb dX0_directed_21 (lv_at hl 0 rfl) ?_
        obtain ⟨u_188, hc_189, h⟩ := bd_inv h
        refine wafter_i (wr := []) (w2 := []) (va_runS (As := [.long x0, .int u_186]) (rest := []) ⟨hx, hb, hml, hown, hts⟩ (kX0_row (l := l) (G := G)   x0 u_186 N u_188 hc_189 _) (va_cwS 2 hts gX0_directed_X0_row rfl rfl rfl (by decide +kernel) ⟨by simp only []; omega, by simp only []; omega⟩) (wPreS hP hD hK [] rfl rfl) rfl rfl hl.1 rfl (lv_room (Nat.le_of_ble_eq_true rfl)) dX0_directed_23 ⟨Nat.zero_le _, Nat.zero_le _⟩) hP hD hS hA [] [] [] rfl rfl rfl (by decide) rfl rfl (fun H locs hP hD hS => ?_)
        obtain ⟨u_190, hc_191, h⟩ := bd_inv h
        refine wafter_i (wr := []) (w2 := []) (va_runS (As := [.int u_188]) (rest := []) ⟨hx, hb, hml, hown, hts⟩ (kX0_firstIn (l := l) (G := G)   u_188 N u_190 hc_191 _) (va_cwS 1 hts gX0_directed_X0_firstIn rfl rfl rfl (by decide +kernel) ⟨by simp only []; omega, by simp only []; omega⟩) (wPreS hP hD hK [] rfl rfl) rfl rfl hl.1 rfl (lv_room (Nat.le_of_ble_eq_true rfl)) dX0_directed_26 ⟨Nat.zero_le _, Nat.zero_le _⟩) hP hD hS hA [] [] [] rfl rfl rfl (by decide) rfl rfl (fun H locs hP hD hS => ?_)
        refine lv_istore (lv' := [(6, .int u_190), (5, .int u_186), (0, .long x0), (2, .int x2), (3, .long x3)]) hx hb dX0_directed_29 hl (by decide) rfl (fun ls hl => ?_)
        refine lv_lload_n hx hb dX0_directed_31 rfl (lv_at hl 2 rfl) ?_
        refine lv_iload hx hb dX0_directed_32 (lv_at hl 1 rfl) ?_
        refine lv_iload hx hb dX0_directed_34 (lv_at hl 0 rfl) ?_
        obtain ⟨u_192, hc_193, h⟩ := bd_inv h
        refine wafter_l (wr := []) (w2 := []) (va_runS (As := [.int u_186, .int u_190]) (rest := [.long x0]) ⟨hx, hb, hml, hown, hts⟩ (kX0_tie (l := l) (G := G)   u_186 u_190 N u_192 hc_193 _) (va_cwS 2 hts gX0_directed_X0_tie rfl rfl rfl (by decide +kernel) ⟨by simp only []; omega, by simp only []; omega⟩) (wPreS hP hD hK [] rfl rfl) rfl rfl hl.1 rfl (lv_room (Nat.le_of_ble_eq_true rfl)) dX0_directed_36 ⟨Nat.zero_le _, Nat.zero_le _⟩) hP hD hS hA [] [] [] rfl rfl rfl (by decide) rfl rfl (fun H locs hP hD hS => ?_)
        refine lv_ldc2 (v := -1) hx hb hown (hts (.constantLong RX0 55 (-1)) (by decide +kernel)) dX0_directed_39 ?_
        refine lv_lxor hx hb dX0_directed_42 ?_
        refine lv_land hx hb dX0_directed_43 ?_
        refine lv_lstore (lv' := [(7, .long (x0 &&& (u_192 ^^^ -1))), (6, .int u_190), (5, .int u_186), (0, .long x0), (2, .int x2), (3, .long x3)]) hx hb dX0_directed_44 hl (by decide) rfl (fun ls hl => ?_)
        refine lv_iconst (v := 0) hx hb dX0_directed_46 (by decide) ?_
        refine lv_istore (lv' := [(9, .int 0), (7, .long (x0 &&& (u_192 ^^^ -1))), (6, .int u_190), (5, .int u_186), (0, .long x0), (2, .int x2), (3, .long x3)]) hx hb dX0_directed_47 hl (by decide) rfl (fun ls hl => ?_)
        refine lv_lload_n hx hb dX0_directed_49 rfl (lv_at hl 6 rfl) ?_
        refine lv_iload hx hb dX0_directed_50 (lv_at hl 2 rfl) ?_
        obtain ⟨u_194, hc_195, h⟩ := bd_inv h
        refine wafter_i (wr := []) (w2 := []) (va_runS (As := [.long x3, .int u_190]) (rest := []) ⟨hx, hb, hml, hown, hts⟩ (kX0_row (l := l) (G := G)   x3 u_190 N u_194 hc_195 _) (va_cwS 2 hts gX0_directed_X0_row rfl rfl rfl (by decide +kernel) ⟨by simp only []; omega, by simp only []; omega⟩) (wPreS hP hD hK [] rfl rfl) rfl rfl hl.1 rfl (lv_room (Nat.le_of_ble_eq_true rfl)) dX0_directed_52 ⟨Nat.zero_le _, Nat.zero_le _⟩) hP hD hS hA [] [] [] rfl rfl rfl (by decide) rfl rfl (fun H locs hP hD hS => ?_)
        refine lv_iload hx hb dX0_directed_55 (lv_at hl 3 rfl) ?_
        obtain ⟨u_196, hc_197, h⟩ := bd_inv h
        refine wafter_i (wr := []) (w2 := []) (va_runSN (As := [.int u_194, .int u_186]) (rest := []) ⟨hx, hb, hml, hown, hts⟩ (kX4_isIn (l := l) (G := G)   u_194 u_186 N u_196 hc_197 _) ⟨va_cnB 2 hts gX0_directed_X4_isIn_n61 rfl rfl rfl (hK.2 (.methodLinkNest RX0 61 yX4_isIn RX4) (by simp [wNest])) (hts (.initialized RX4) (by decide +kernel)) (by decide +kernel) ⟨by simp only []; omega, by simp only []; omega⟩, hts (.static yX4_isIn) (by decide +kernel), trivial⟩ (wPreS hP hD hK [] rfl rfl) rfl rfl hl.1 rfl (lv_room (Nat.le_of_ble_eq_true rfl)) dX0_directed_57 ⟨Nat.zero_le _, Nat.zero_le _⟩) hP hD hS hA [] [] [] rfl rfl rfl (by decide) rfl rfl (fun H locs hP hD hS => ?_)
        refine lv_if_ne (tgt := 84) hx hb dX0_directed_60 (by decide) (fun c_198 => ?_) (fun c_198 => ?_)
        · have h := iq c_198 h
          exact w_84  _ _ _ _ _ _   _ _ _  hP hD hS (lv_sub hl [5, 6, 3, 2, 1, 0] rfl) h
        · have h := ip c_198 h
          refine lv_iload hx hb dX0_directed_63 (lv_at hl 0 rfl) ?_
          refine lv_lload hx hb dX0_directed_65 (lv_at hl 1 rfl) ?_
          refine lv_iload_n hx hb dX0_directed_67 rfl (lv_at hl 5 rfl) ?_
          refine lv_iconst (v := 1) hx hb dX0_directed_68 (by decide) ?_
          refine lv_iadd hx hb dX0_directed_69 ?_
          refine lv_lload_n hx hb dX0_directed_70 rfl (lv_at hl 6 rfl) ?_
          refine lv_iload hx hb dX0_directed_71 (lv_at hl 3 rfl) ?_
          refine lv_iload hx hb dX0_directed_73 (lv_at hl 2 rfl) ?_
          obtain ⟨u_199, hc_200, h⟩ := bd_inv h
          refine wafter_l (wr := []) (w2 := []) (va_runS (As := [.long x3, .int u_186, .int u_190]) (rest := [.int (x2 + 1), .long (x0 &&& (u_192 ^^^ -1)), .int 0]) ⟨hx, hb, hml, hown, hts⟩ (kX0_led (l := l) (G := G)   x3 u_186 u_190 N u_199 hc_200 _) (va_cwS 3 hts gX0_directed_X0_led rfl rfl rfl (by decide +kernel) ⟨by simp only []; omega, by simp only []; omega⟩) (wPreS hP hD hK [] rfl rfl) rfl rfl hl.1 rfl (lv_room (Nat.le_of_ble_eq_true rfl)) dX0_directed_75 ⟨Nat.zero_le _, Nat.zero_le _⟩) hP hD hS hA [] [] [] rfl rfl rfl (by decide) rfl rfl (fun H locs hP hD hS => ?_)
          obtain ⟨u_201, hc_202, h⟩ := bd_inv h
          refine wafter_i (wr := []) (w2 := []) (va_runS (As := [.long (x0 &&& (u_192 ^^^ -1)), .int (x2 + 1), .long u_199]) (rest := [.int 0]) ⟨hx, hb, hml, hown, hts⟩ (ihr   _ _ _ u_201 hc_202 _) (va_cwS 3 hts gX0_directed_X0_directed rfl rfl rfl (by decide +kernel) ⟨by simp only []; omega, by simp only []; omega⟩) (wPreS hP hD hK [] rfl rfl) rfl rfl hl.1 rfl (lv_room (Nat.le_of_ble_eq_true rfl)) dX0_directed_78 ⟨Nat.zero_le _, Nat.zero_le _⟩) hP hD hS hA [] [] [] rfl rfl rfl (by decide) rfl rfl (fun H locs hP hD hS => ?_)
          refine lv_iadd hx hb dX0_directed_81 ?_
          refine lv_istore (lv' := [(9, .int (0 + u_201)), (7, .long (x0 &&& (u_192 ^^^ -1))), (6, .int u_190), (5, .int u_186), (0, .long x0), (2, .int x2), (3, .long x3)]) hx hb dX0_directed_82 hl (by decide) rfl (fun ls hl => ?_)
          exact w_84  _ _ _ _ _ _   _ _ _  hP hD hS (lv_sub hl [5, 6, 3, 2, 1, 0] rfl) h
      · have h := iq c_185 h
        refine lv_iconst (v := 1) hx hb dX0_directed_12 (by decide) ?_
        obtain rfl := Option.some.inj h
        exact wri hx hb hr hlocks hP hD hS (Nat.le_refl _) (Nat.le_refl _) rfl dX0_directed_13
def fX0_tryAllDirections (N : Nat) (g_e : Int64) : Option (Int32) := bd (fX0_directed N 16 g_e 0 0) (fun u_203 => some u_203)
set_option maxHeartbeats 4000000 in
set_option maxRecDepth 100000 in
theorem kX0_tryAllDirections {l : Launch} {G : wG} (g0 : Nat) (g_e : Int64) (N : Nat) (v : Int32) (h : fX0_tryAllDirections N g_e = some v) : wCi l G yX0_tryAllDirections wsX0_tryAllDirections ({ frames := 20, cells := 0, slots := 0, locals := 561 } : Room) [.ref g0] (w_G G g0 g_e) (w_G G g0 g_e) 0 0 v := by
  refine wCi.mk (cc := cX0_tryAllDirections) (maxL := 1) (ty := .int) (by decide) rfl (Nat.le_of_ble_eq_true rfl) ?_
  intro p e s m below meth c A ls hx hb hml hr hlocks hts hown hK hA hP hD hl
  have hx : p.tables.exec = Jvm.exec := hx
  have hown : s.vm.findClass RX0 = some m.cls := hown
  have hinX0 : ∀ w ∈ wsX00, w ∈ wsX0_tryAllDirections := by decide +kernel
  have lk9 := hts (.fieldLink RX0 9 "Chamberwright$Graph" "edges" "J") (by decide +kernel)
  have hS : va_S A s.heap s.heap [] := va_S.rf
  have hP : va_P G.1 vwCl (w_G G g0 g_e) s.heap := hP
  have hD : va_D A (w_G G g0 g_e) := hD
  have hl : lv_has ls 1 [(0, .ref g0)] := hl
  obtain ⟨args, hargs⟩ : ∃ z : Array Value, z = ([.ref g0] : List Value).toArray := ⟨_, rfl⟩
  rw [← hargs]
  rw [← hargs] at hts
  rw [fX0_tryAllDirections.eq_1] at h
  refine lv_aload_n hx hb dX0_tryAllDirections_0 rfl (lv_at hl 0 rfl) ?_
  refine va_get (D := G.1) (ci := 0) (v := .long g_e) (C := RX0) (T := TX0) (N := 1) hx hb hts hinX0 hown hK.1 hP 0 rfl rfl 0 (by decide) lk9 (fun _ h9 => h9) rfl dX0_tryAllDirections_1 ?_
  refine lv_iconst (v := 0) hx hb dX0_tryAllDirections_4 (by decide) ?_
  refine lv_lconst (v := 0) hx hb dX0_tryAllDirections_5 (by decide) ?_
  obtain ⟨u_203, hc_204, h⟩ := bd_inv h
  refine wafter_i (wr := (w_G G g0 g_e)) (w2 := (w_G G g0 g_e)) (va_runS (As := [.long g_e, .int 0, .long 0]) (rest := []) ⟨hx, hb, hml, hown, hts⟩ (kX0_directed (l := l) (G := G)   g_e 0 0 N 16 u_203 hc_204 _) (va_cwS 3 hts gX0_tryAllDirections_X0_directed rfl rfl rfl (by decide +kernel) ⟨Nat.le_of_ble_eq_true rfl, Nat.le_of_ble_eq_true rfl⟩) (wPreS hP hD hK [] rfl rfl) rfl rfl hl.1 rfl (lv_room (Nat.le_of_ble_eq_true rfl)) dX0_tryAllDirections_6 ⟨Nat.zero_le _, Nat.zero_le _⟩) hP hD hS hA [] [0] [0] rfl rfl rfl (by decide) rfl rfl (fun H locs hP hD hS => ?_)
  obtain rfl := Option.some.inj h
  exact wri hx hb hr hlocks hP hD hS (Nat.le_of_ble_eq_true rfl) (Nat.le_of_ble_eq_true rfl) rfl dX0_tryAllDirections_9
