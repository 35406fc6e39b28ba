def fX3_markBeside (N : Nat) (r_n : Nat → Int32) (x1 : Int32) (x2 : Int32) : Option ((Nat → Int32)) := ck 512 x2 (bd (fX4_bit N x1) (fun u_346 => ck 512 (x2 ||| u_346) (some ((upd ((upd r_n (Int32.toNatClampNeg x2) 0)) (Int32.toNatClampNeg (x2 ||| u_346)) 0)))))
set_option maxHeartbeats 4000000 in
set_option maxRecDepth 100000 in
theorem kX3_markBeside {l : Launch} {G : wG} (r0 r1 r2 r3 : Nat) (r_s : Nat → Int32) (r_n : Nat → Int32) (r_w : Nat → Int32) (r_k : Int32) (x1 : Int32) (x2 : Int32) (N : Nat) (v : (Nat → Int32)) (h : fX3_markBeside N r_n x1 x2 = some v) : wCv l G yX3_markBeside wsX3_markBeside ({ frames := 1, cells := 0, slots := 0, locals := 20 } : Room) [.ref r0, .int x1, .int x2] (w_R G r0 r1 r2 r3 r_s r_n r_w r_k) (w_R G r0 r1 r2 r3 r_s v r_w r_k) 0 0 := by
  refine wCv.mk (cc := cX3_markBeside) (maxL := 3) (by decide) rfl (Nat.le_of_ble_eq_true rfl) ?_
  intro p e s m below meth c A ls hx hb hml hr hlocks hts hown hK hA hP hD hl
  have hx : p.tables.exec = Jvm.exec := hx
  have hown : s.vm.findClass RX3 = some m.cls := hown
  have hinX3 : ∀ w ∈ wsX30, w ∈ wsX3_markBeside := by decide +kernel
  have lk15 := hts (.fieldLink RX3 15 "Chamberwright$Rooms" "numbers" "[I") (by decide +kernel)
  have hS : va_S A s.heap s.heap [] := va_S.rf
  have hP : va_P G.1 vwCl (w_R G r0 r1 r2 r3 r_s r_n r_w r_k) s.heap := hP
  have hD : va_D A (w_R G r0 r1 r2 r3 r_s r_n r_w r_k) := hD
  have hl : lv_has ls 3 [(0, .ref r0), (1, .int x1), (2, .int x2)] := hl
  obtain ⟨args, hargs⟩ : ∃ z : Array Value, z = ([.ref r0, .int x1, .int x2] : List Value).toArray := ⟨_, rfl⟩
  rw [← hargs]
  rw [← hargs] at hts
  rw [fX3_markBeside.eq_1] at h
  refine lv_aload_n hx hb dX3_markBeside_0 rfl (lv_at hl 0 rfl) ?_
  refine va_get (D := G.1) (ci := 3) (v := .ref r2) (C := RX3) (T := TX3) (N := 4) hx hb hts hinX3 hown hK.1 hP 0 rfl rfl 1 (by decide) lk15 (fun _ h9 => h9) rfl dX3_markBeside_1 ?_
  refine lv_iload_n hx hb dX3_markBeside_4 rfl (lv_at hl 2 rfl) ?_
  refine lv_iconst (v := 0) hx hb dX3_markBeside_5 (by decide) ?_
  refine wiast h hx hb hK hP hD hS 2 rfl dX3_markBeside_6 (fun H locs hP hD hS h => ?_)
  have hP : va_P G.1 vwCl (w_R G r0 r1 r2 r3 r_s ((upd r_n (Int32.toNatClampNeg x2) 0)) r_w r_k) H := hP
  have hD : va_D A (w_R G r0 r1 r2 r3 r_s ((upd r_n (Int32.toNatClampNeg x2) 0)) r_w r_k) := hD
  refine lv_aload_n hx hb dX3_markBeside_7 rfl (lv_at hl 0 rfl) ?_
  refine va_get (D := G.1) (ci := 3) (v := .ref r2) (C := RX3) (T := TX3) (N := 4) hx hb hts hinX3 hown hK.1 hP 0 rfl rfl 1 (by decide) lk15 (fun _ h9 => h9) rfl dX3_markBeside_8 ?_
  refine lv_iload_n hx hb dX3_markBeside_11 rfl (lv_at hl 2 rfl) ?_
  refine lv_iload_n hx hb dX3_markBeside_12 rfl (lv_at hl 1 rfl) ?_
  obtain ⟨u_346, hc_347, h⟩ := bd_inv h
  refine wafter_i (wr := (w_R G r0 r1 r2 r3 r_s ((upd r_n (Int32.toNatClampNeg x2) 0)) r_w r_k)) (w2 := (w_R G r0 r1 r2 r3 r_s ((upd r_n (Int32.toNatClampNeg x2) 0)) r_w r_k)) (va_runSN (As := [.int x1]) (rest := [.int x2, .ref r2]) ⟨hx, hb, hml, hown, hts⟩ (kX4_bit (l := l) (G := G)   x1 N u_346 hc_347 _) ⟨va_cnB 1 hts gX3_markBeside_X4_bit_n82 rfl rfl rfl (hK.2 (.methodLinkNest RX3 82 yX4_bit RX4) (by simp [wNest])) (hts (.initialized RX4) (by decide +kernel)) (by decide +kernel) ⟨Nat.le_of_ble_eq_true rfl, Nat.le_of_ble_eq_true rfl⟩, hts (.static yX4_bit) (by decide +kernel), trivial⟩ (wPreS hP hD hK [] rfl rfl) rfl rfl hl.1 rfl (lv_room (Nat.le_of_ble_eq_true rfl)) dX3_markBeside_13 ⟨Nat.zero_le _, Nat.zero_le _⟩) hP hD hS hA [] [0, 1, 2, 3] [0, 1, 2, 3] rfl rfl rfl (by decide) rfl rfl (fun H locs hP hD hS => ?_)
  refine lv_ior hx hb dX3_markBeside_16 ?_
  refine lv_iconst (v := 0) hx hb dX3_markBeside_17 (by decide) ?_
  refine wiast h hx hb hK hP hD hS 2 rfl dX3_markBeside_18 (fun H locs hP hD hS h => ?_)
  have hP : va_P G.1 vwCl (w_R G r0 r1 r2 r3 r_s ((upd ((upd r_n (Int32.toNatClampNeg x2) 0)) (Int32.toNatClampNeg (x2 ||| u_346)) 0)) r_w r_k) H := hP
  have hD : va_D A (w_R G r0 r1 r2 r3 r_s ((upd ((upd r_n (Int32.toNatClampNeg x2) 0)) (Int32.toNatClampNeg (x2 ||| u_346)) 0)) r_w r_k) := hD
  obtain rfl := Option.some.inj h
  exact wrv hx hb hr hlocks hP hD hS (Nat.le_of_ble_eq_true rfl) (Nat.le_of_ble_eq_true rfl) dX3_markBeside_19
def fX3_markBeyond_b58 (N : Nat) (l_a : Nat → Int32) (l_b : Nat → Int32) (l_c : Nat → Int32) (l_n : Int32) (m_x : Nat → Int32) (m_y : Nat → Int32) (m_d : Nat → Int32) (x3 : Int32) (x4 : Int32) (x6 : Int32) (x7 : Int32) (r_n : Nat → Int32) (s0 : Int32) : Option ((Nat → Int32)) := bd (fX2_d N m_d x4) (fun u_348 => bd (fX2_x N m_x x4) (fun u_350 => nm (u_350 + ((s0 * u_348) * x6)) (fun x10_352 => bd (fX2_y N m_y x4) (fun u_353 => nm (u_353 + ((s0 * u_348) * x7)) (fun x11_355 => bd (fX2_d N m_d x4) (fun u_356 => bd (fX1_setBelow N l_a l_b l_c l_n x10_352 x11_355 u_356) (fun u_358 => bd (fX3_markBeside N r_n x3 u_358) (fun u_360 => some u_360))))))))
def fX3_markBeyond_b43 (N : Nat) (l_a : Nat → Int32) (l_b : Nat → Int32) (l_c : Nat → Int32) (l_n : Int32) (m_x : Nat → Int32) (m_y : Nat → Int32) (m_d : Nat → Int32) (x3 : Int32) (x4 : Int32) (x5 : Int32) (x6 : Int32) (x7 : Int32) (r_n : Nat → Int32) (s0 : Int32) : Option ((Nat → Int32)) := if s0 = 0 then fX3_markBeyond_b58 N l_a l_b l_c l_n m_x m_y m_d x3 x4 x6 x7 r_n (-x5) else fX3_markBeyond_b58 N l_a l_b l_c l_n m_x m_y m_d x3 x4 x6 x7 r_n x5
def fX3_markBeyond (N : Nat) (l_a : Nat → Int32) (l_b : Nat → Int32) (l_c : Nat → Int32) (l_n : Int32) (m_x : Nat → Int32) (m_y : Nat → Int32) (m_d : Nat → Int32) (r_n : Nat → Int32) (x3 : Int32) (x4 : Int32) (x5 : Int32) : Option ((Nat → Int32)) := bd (fX1_b N l_b x3) (fun u_363 => bd (fX1_a N l_a x3) (fun u_365 => if u_363 = 0 then if (-u_365) ≤ 0 then fX3_markBeyond_b43 N l_a l_b l_c l_n m_x m_y m_d x3 x4 x5 u_363 (-u_365) r_n 0 else fX3_markBeyond_b43 N l_a l_b l_c l_n m_x m_y m_d x3 x4 x5 u_363 (-u_365) r_n 1 else if u_363 ≤ 0 then fX3_markBeyond_b43 N l_a l_b l_c l_n m_x m_y m_d x3 x4 x5 u_363 (-u_365) r_n 0 else fX3_markBeyond_b43 N l_a l_b l_c l_n m_x m_y m_d x3 x4 x5 u_363 (-u_365) r_n 1))
set_option maxHeartbeats 4000000 in
set_option maxRecDepth 100000 in
theorem kX3_markBeyond {l : Launch} {G : wG} (r0 r1 r2 r3 l0 l1 l2 l3 m0 m1 m2 m3 m4 m5 : Nat) (l_a : Nat → Int32) (l_b : Nat → Int32) (l_c : Nat → Int32) (l_n : Int32) (m_x : Nat → Int32) (m_y : Nat → Int32) (m_d : Nat → Int32) (m_t : Nat → Int32) (m_v : Nat → Int32) (m_n : Int32) (r_s : Nat → Int32) (r_n : Nat → Int32) (r_w : Nat → Int32) (r_k : Int32) (x3 : Int32) (x4 : Int32) (x5 : Int32) (N : Nat) (v : (Nat → Int32)) (h : fX3_markBeyond N l_a l_b l_c l_n m_x m_y m_d r_n x3 x4 x5 = some v) : wCv l G yX3_markBeyond wsX3_markBeyond ({ frames := 2, cells := 0, slots := 0, locals := 49 } : Room) [.ref r0, .ref l0, .ref m0, .int x3, .int x4, .int x5] (w_RLM G r0 r1 r2 r3 l0 l1 l2 l3 m0 m1 m2 m3 m4 m5 l_a l_b l_c l_n m_x m_y m_d m_t m_v m_n r_s r_n r_w r_k) (w_RLM G r0 r1 r2 r3 l0 l1 l2 l3 m0 m1 m2 m3 m4 m5 l_a l_b l_c l_n m_x m_y m_d m_t m_v m_n r_s v r_w r_k) 0 0 := by
  refine wCv.mk (cc := cX3_markBeyond) (maxL := 12) (by decide) rfl (Nat.le_of_ble_eq_true rfl) ?_
  intro p e s m below meth c A ls hx hb hml hr hlocks hts hown hK hA hP hD hl
  have hx : p.tables.exec = Jvm.exec := hx
  have hown : s.vm.findClass RX3 = some m.cls := hown
  have hS : va_S A s.heap s.heap [] := va_S.rf
  have hP : va_P G.1 vwCl (w_RLM G r0 r1 r2 r3 l0 l1 l2 l3 m0 m1 m2 m3 m4 m5 l_a l_b l_c l_n m_x m_y m_d m_t m_v m_n r_s r_n r_w r_k) s.heap := hP
  have hD : va_D A (w_RLM G r0 r1 r2 r3 l0 l1 l2 l3 m0 m1 m2 m3 m4 m5 l_a l_b l_c l_n m_x m_y m_d m_t m_v m_n r_s r_n r_w r_k) := hD
  have hl : lv_has ls 12 [(0, .ref r0), (1, .ref l0), (2, .ref m0), (3, .int x3), (4, .int x4), (5, .int x5)] := hl
  obtain ⟨args, hargs⟩ : ∃ z : Array Value, z = ([.ref r0, .ref l0, .ref m0, .int x3, .int x4, .int x5] : List Value).toArray := ⟨_, rfl⟩
  rw [← hargs]
  rw [← hargs] at hts
  have w_58 : ∀ (x3 : Int32) (x4 : Int32) (x6 : Int32) (x7 : Int32) (r_n : Nat → Int32) (s0 : Int32) (H : Heap) (locs : List Loc) (ls : Array Slot), va_P G.1 vwCl (w_RLM G r0 r1 r2 r3 l0 l1 l2 l3 m0 m1 m2 m3 m4 m5 l_a l_b l_c l_n m_x m_y m_d m_t m_v m_n r_s r_n r_w r_k) H → va_D A (w_RLM G r0 r1 r2 r3 l0 l1 l2 l3 m0 m1 m2 m3 m4 m5 l_a l_b l_c l_n m_x m_y m_d m_t m_v m_n r_s r_n r_w r_k) → va_S A s.heap H locs → lv_has ls 12 [(0, .ref r0), (1, .ref l0), (2, .ref m0), (3, .int x3), (4, .int x4), (6, .int x6), (7, .int x7)] → fX3_markBeyond_b58 N l_a l_b l_c l_n m_x m_y m_d x3 x4 x6 x7 r_n s0 = some v → W p l e ({ frames := 2, cells := 0, slots := 0, locals := 49 } : Room) s m args below meth c H locs 0 0 (wQv G A below args s (w_RLM G r0 r1 r2 r3 l0 l1 l2 l3 m0 m1 m2 m3 m4 m5 l_a l_b l_c l_n m_x m_y m_d m_t m_v m_n r_s v r_w r_k) 0 0) (F0 m 58 ls [.int s0]) := by
    intro x3 x4 x6 x7 r_n s0 H locs ls hP hD hS hl h
    rw [fX3_markBeyond_b58.eq_1] at h
    refine lv_aload_n hx hb dX3_markBeyond_58 rfl (lv_at hl 2 rfl) ?_
    refine lv_iload hx hb dX3_markBeyond_59 (lv_at hl 4 rfl) ?_
    obtain ⟨u_348, hc_349, h⟩ := bd_inv h
    refine wafter_i (wr := [(r0, .inr (3, [.ref r1, .ref r2, .ref r3, .int r_k])), (r1, .inl (G.2.1, 46, .inl r_s)), (r2, .inl (G.2.1, 512, .inl r_n)), (r3, .inl (G.2.1, 512, .inl r_w)), (l0, .inr (1, [.ref l1, .ref l2, .ref l3, .int l_n])), (l1, .inl (G.2.1, 9, .inl l_a)), (l2, .inl (G.2.1, 9, .inl l_b)), (l3, .inl (G.2.1, 9, .inl l_c))]) (w2 := (w_RLM G r0 r1 r2 r3 l0 l1 l2 l3 m0 m1 m2 m3 m4 m5 l_a l_b l_c l_n m_x m_y m_d m_t m_v m_n r_s r_n r_w r_k)) (va_runV (As := [.int x4]) (rest := [.int s0]) ⟨hx, hb, hml, hown, hts⟩ (kX2_d (l := l) (G := G) m0 m1 m2 m3 m4 m5 m_x m_y m_d m_t m_v m_n x4 N u_348 hc_349 _) (cwV 1 hts gX3_markBeyond_X2_d rfl rfl rfl (by decide +kernel) ⟨Nat.le_of_ble_eq_true rfl, Nat.le_of_ble_eq_true rfl⟩) (wPreV hP hD hK [8, 9, 10, 11, 12, 13] rfl rfl (ci := 2) (qb := 8) rfl rfl rfl) rfl rfl hl.1 rfl (lv_room (Nat.le_of_ble_eq_true rfl)) dX3_markBeyond_61 ⟨Nat.zero_le _, Nat.zero_le _⟩) hP hD hS hA [8, 9, 10, 11, 12, 13] [0, 1, 2, 3, 4, 5, 6, 7] [0, 1, 2, 3, 4, 5, 6, 7, 8, 9, 10, 11, 12, 13] rfl rfl rfl (by decide) rfl rfl (fun H locs hP hD hS => ?_)
    refine lv_imul hx hb dX3_markBeyond_64 ?_
    refine lv_istore (lv' := [(9, .int (s0 * u_348)), (0, .ref r0), (1, .ref l0), (2, .ref m0), (3, .int x3), (4, .int x4), (6, .int x6), (7, .int x7)]) hx hb dX3_markBeyond_65 hl (by decide) rfl (fun ls hl => ?_)
    refine lv_aload_n hx hb dX3_markBeyond_67 rfl (lv_at hl 3 rfl) ?_
    refine lv_iload hx hb dX3_markBeyond_68 (lv_at hl 5 rfl) ?_
    obtain ⟨u_350, hc_351, h⟩ := bd_inv h
    refine wafter_i (wr := [(r0, .inr (3, [.ref r1, .ref r2, .ref r3, .int r_k])), (r1, .inl (G.2.1, 46, .inl r_s)), (r2, .inl (G.2.1, 512, .inl r_n)), (r3, .inl (G.2.1, 512, .inl r_w)), (l0, .inr (1, [.ref l1, .ref l2, .ref l3, .int l_n])), (l1, .inl (G.2.1, 9, .inl l_a)), (l2, .inl (G.2.1, 9, .inl l_b)), (l3, .inl (G.2.1, 9, .inl l_c))]) (w2 := (w_RLM G r0 r1 r2 r3 l0 l1 l2 l3 m0 m1 m2 m3 m4 m5 l_a l_b l_c l_n m_x m_y m_d m_t m_v m_n r_s r_n r_w r_k)) (va_runV (As := [.int x4]) (rest := []) ⟨hx, hb, hml, hown, hts⟩ (kX2_x (l := l) (G := G) m0 m1 m2 m3 m4 m5 m_x m_y m_d m_t m_v m_n x4 N u_350 hc_351 _) (cwV 1 hts gX3_markBeyond_X2_x rfl rfl rfl (by decide +kernel) ⟨Nat.le_of_ble_eq_true rfl, Nat.le_of_ble_eq_true rfl⟩) (wPreV hP hD hK [8, 9, 10, 11, 12, 13] rfl rfl (ci := 2) (qb := 8) rfl rfl rfl) rfl rfl hl.1 rfl (lv_room (Nat.le_of_ble_eq_true rfl)) dX3_markBeyond_70 ⟨Nat.zero_le _, Nat.zero_le _⟩) hP hD hS hA [8, 9, 10, 11, 12, 13] [0, 1, 2, 3, 4, 5, 6, 7] [0, 1, 2, 3, 4, 5, 6, 7, 8, 9, 10, 11, 12, 13] rfl rfl rfl (by decide) rfl rfl (fun H locs hP hD hS => ?_)
    refine lv_iload hx hb dX3_markBeyond_73 (lv_at hl 0 rfl) ?_
    refine lv_iload hx hb dX3_markBeyond_75 (lv_at hl 6 rfl) ?_
    refine lv_imul hx hb dX3_markBeyond_77 ?_
    refine lv_iadd hx hb dX3_markBeyond_78 ?_
    refine wnmi h (fun x10_352 h => ?_)
    refine lv_istore (lv' := [(10, .int x10_352), (9, .int (s0 * u_348)), (0, .ref r0), (1, .ref l0), (2, .ref m0), (3, .int x3), (4, .int x4), (6, .int x6), (7, .int x7)]) hx hb dX3_markBeyond_79 hl (by decide) rfl (fun ls hl => ?_)
    refine lv_aload_n hx hb dX3_markBeyond_81 rfl (lv_at hl 4 rfl) ?_
    refine lv_iload hx hb dX3_markBeyond_82 (lv_at hl 6 rfl) ?_
    obtain ⟨u_353, hc_354, h⟩ := bd_inv h
    refine wafter_i (wr := [(r0, .inr (3, [.ref r1, .ref r2, .ref r3, .int r_k])), (r1, .inl (G.2.1, 46, .inl r_s)), (r2, .inl (G.2.1, 512, .inl r_n)), (r3, .inl (G.2.1, 512, .inl r_w)), (l0, .inr (1, [.ref l1, .ref l2, .ref l3, .int l_n])), (l1, .inl (G.2.1, 9, .inl l_a)), (l2, .inl (G.2.1, 9, .inl l_b)), (l3, .inl (G.2.1, 9, .inl l_c))]) (w2 := (w_RLM G r0 r1 r2 r3 l0 l1 l2 l3 m0 m1 m2 m3 m4 m5 l_a l_b l_c l_n m_x m_y m_d m_t m_v m_n r_s r_n r_w r_k)) (va_runV (As := [.int x4]) (rest := []) ⟨hx, hb, hml, hown, hts⟩ (kX2_y (l := l) (G := G) m0 m1 m2 m3 m4 m5 m_x m_y m_d m_t m_v m_n x4 N u_353 hc_354 _) (cwV 1 hts gX3_markBeyond_X2_y rfl rfl rfl (by decide +kernel) ⟨Nat.le_of_ble_eq_true rfl, Nat.le_of_ble_eq_true rfl⟩) (wPreV hP hD hK [8, 9, 10, 11, 12, 13] rfl rfl (ci := 2) (qb := 8) rfl rfl rfl) rfl rfl hl.1 rfl (lv_room (Nat.le_of_ble_eq_true rfl)) dX3_markBeyond_84 ⟨Nat.zero_le _, Nat.zero_le _⟩) hP hD hS hA [8, 9, 10, 11, 12, 13] [0, 1, 2, 3, 4, 5, 6, 7] [0, 1, 2, 3, 4, 5, 6, 7, 8, 9, 10, 11, 12, 13] rfl rfl rfl (by decide) rfl rfl (fun H locs hP hD hS => ?_)
    refine lv_iload hx hb dX3_markBeyond_87 (lv_at hl 1 rfl) ?_
    refine lv_iload hx hb dX3_markBeyond_89 (lv_at hl 8 rfl) ?_
    refine lv_imul hx hb dX3_markBeyond_91 ?_
    refine lv_iadd hx hb dX3_markBeyond_92 ?_
    refine wnmi h (fun x11_355 h => ?_)
    refine lv_istore (lv' := [(11, .int x11_355), (10, .int x10_352), (9, .int (s0 * u_348)), (0, .ref r0), (1, .ref l0), (2, .ref m0), (3, .int x3), (4, .int x4), (6, .int x6), (7, .int x7)]) hx hb dX3_markBeyond_93 hl (by decide) rfl (fun ls hl => ?_)
    refine lv_aload_n hx hb dX3_markBeyond_95 rfl (lv_at hl 3 rfl) ?_
    refine lv_iload_n hx hb dX3_markBeyond_96 rfl (lv_at hl 6 rfl) ?_
    refine lv_aload_n hx hb dX3_markBeyond_97 rfl (lv_at hl 4 rfl) ?_
    refine lv_iload hx hb dX3_markBeyond_98 (lv_at hl 1 rfl) ?_
    refine lv_iload hx hb dX3_markBeyond_100 (lv_at hl 0 rfl) ?_
    refine lv_aload_n hx hb dX3_markBeyond_102 rfl (lv_at hl 5 rfl) ?_
    refine lv_iload hx hb dX3_markBeyond_103 (lv_at hl 7 rfl) ?_
    obtain ⟨u_356, hc_357, h⟩ := bd_inv h
    refine wafter_i (wr := [(r0, .inr (3, [.ref r1, .ref r2, .ref r3, .int r_k])), (r1, .inl (G.2.1, 46, .inl r_s)), (r2, .inl (G.2.1, 512, .inl r_n)), (r3, .inl (G.2.1, 512, .inl r_w)), (l0, .inr (1, [.ref l1, .ref l2, .ref l3, .int l_n])), (l1, .inl (G.2.1, 9, .inl l_a)), (l2, .inl (G.2.1, 9, .inl l_b)), (l3, .inl (G.2.1, 9, .inl l_c))]) (w2 := (w_RLM G r0 r1 r2 r3 l0 l1 l2 l3 m0 m1 m2 m3 m4 m5 l_a l_b l_c l_n m_x m_y m_d m_t m_v m_n r_s r_n r_w r_k)) (va_runV (As := [.int x4]) (rest := [.int x11_355, .int x10_352, .ref l0, .int x3, .ref r0]) ⟨hx, hb, hml, hown, hts⟩ (kX2_d (l := l) (G := G) m0 m1 m2 m3 m4 m5 m_x m_y m_d m_t m_v m_n x4 N u_356 hc_357 _) (cwV 1 hts gX3_markBeyond_X2_d rfl rfl rfl (by decide +kernel) ⟨Nat.le_of_ble_eq_true rfl, Nat.le_of_ble_eq_true rfl⟩) (wPreV hP hD hK [8, 9, 10, 11, 12, 13] rfl rfl (ci := 2) (qb := 8) rfl rfl rfl) rfl rfl hl.1 rfl (lv_room (Nat.le_of_ble_eq_true rfl)) dX3_markBeyond_105 ⟨Nat.zero_le _, Nat.zero_le _⟩) hP hD hS hA [8, 9, 10, 11, 12, 13] [0, 1, 2, 3, 4, 5, 6, 7] [0, 1, 2, 3, 4, 5, 6, 7, 8, 9, 10, 11, 12, 13] rfl rfl rfl (by decide) rfl rfl (fun H locs hP hD hS => ?_)
    obtain ⟨u_358, hc_359, h⟩ := bd_inv h
    refine wafter_i (wr := [(r0, .inr (3, [.ref r1, .ref r2, .ref r3, .int r_k])), (r1, .inl (G.2.1, 46, .inl r_s)), (r2, .inl (G.2.1, 512, .inl r_n)), (r3, .inl (G.2.1, 512, .inl r_w)), (m0, .inr (2, [.ref m1, .ref m2, .ref m3, .ref m4, .ref m5, .int m_n])), (m1, .inl (G.2.1, 36, .inl m_x)), (m2, .inl (G.2.1, 36, .inl m_y)), (m3, .inl (G.2.1, 36, .inl m_d)), (m4, .inl (G.2.1, 36, .inl m_t)), (m5, .inl (G.2.1, 36, .inl m_v))]) (w2 := (w_RLM G r0 r1 r2 r3 l0 l1 l2 l3 m0 m1 m2 m3 m4 m5 l_a l_b l_c l_n m_x m_y m_d m_t m_v m_n r_s r_n r_w r_k)) (va_runV (As := [.int x10_352, .int x11_355, .int u_356]) (rest := [.int x3, .ref r0]) ⟨hx, hb, hml, hown, hts⟩ (kX1_setBelow (l := l) (G := G) l0 l1 l2 l3 l_a l_b l_c l_n x10_352 x11_355 u_356 N u_358 hc_359 _) (cwV 3 hts gX3_markBeyond_X1_setBelow rfl rfl rfl (by decide +kernel) ⟨Nat.le_of_ble_eq_true rfl, Nat.le_of_ble_eq_true rfl⟩) (wPreV hP hD hK [4, 5, 6, 7] rfl rfl (ci := 1) (qb := 4) rfl rfl rfl) rfl rfl hl.1 rfl (lv_room (Nat.le_of_ble_eq_true rfl)) dX3_markBeyond_108 ⟨Nat.zero_le _, Nat.zero_le _⟩) hP hD hS hA [4, 5, 6, 7] [0, 1, 2, 3, 8, 9, 10, 11, 12, 13] [0, 1, 2, 3, 10, 11, 12, 13, 4, 5, 6, 7, 8, 9] rfl rfl rfl (by decide) rfl rfl (fun H locs hP hD hS => ?_)
    obtain ⟨u_360, hc_361, h⟩ := bd_inv h
    refine wafter_v (wr := [(l0, .inr (1, [.ref l1, .ref l2, .ref l3, .int l_n])), (l1, .inl (G.2.1, 9, .inl l_a)), (l2, .inl (G.2.1, 9, .inl l_b)), (l3, .inl (G.2.1, 9, .inl l_c)), (m0, .inr (2, [.ref m1, .ref m2, .ref m3, .ref m4, .ref m5, .int m_n])), (m1, .inl (G.2.1, 36, .inl m_x)), (m2, .inl (G.2.1, 36, .inl m_y)), (m3, .inl (G.2.1, 36, .inl m_d)), (m4, .inl (G.2.1, 36, .inl m_t)), (m5, .inl (G.2.1, 36, .inl m_v))]) (w2 := (w_RLM G r0 r1 r2 r3 l0 l1 l2 l3 m0 m1 m2 m3 m4 m5 l_a l_b l_c l_n m_x m_y m_d m_t m_v m_n r_s u_360 r_w r_k)) (va_runV (As := [.int x3, .int u_358]) (rest := []) ⟨hx, hb, hml, hown, hts⟩ (kX3_markBeside (l := l) (G := G) r0 r1 r2 r3 r_s r_n r_w r_k x3 u_358 N u_360 hc_361 _) (cwV 2 hts gX3_markBeyond_X3_markBeside rfl rfl rfl (by decide +kernel) ⟨Nat.le_of_ble_eq_true rfl, Nat.le_of_ble_eq_true rfl⟩) (wPreV hP hD hK [0, 1, 2, 3] rfl rfl (ci := 3) (qb := 0) rfl rfl rfl) rfl rfl hl.1 rfl (lv_room (Nat.le_of_ble_eq_true rfl)) dX3_markBeyond_111 ⟨Nat.zero_le _, Nat.zero_le _⟩) hP hD hS hA [0, 1, 2, 3] [4, 5, 6, 7, 8, 9, 10, 11, 12, 13] [10, 11, 12, 13, 0, 1, 2, 3, 4, 5, 6, 7, 8, 9] rfl rfl rfl (by decide) rfl rfl (fun H locs hP hD hS => ?_)
    obtain rfl := Option.some.inj h
    exact wrv hx hb hr hlocks hP hD hS (Nat.le_of_ble_eq_true rfl) (Nat.le_of_ble_eq_true rfl) dX3_markBeyond_114
  have w_43 : ∀ (x3 : Int32) (x4 : Int32) (x5 : Int32) (x6 : Int32) (x7 : Int32) (r_n : Nat → Int32) (s0 : Int32) (H : Heap) (locs : List Loc) (ls : Array Slot), va_P G.1 vwCl (w_RLM G r0 r1 r2 r3 l0 l1 l2 l3 m0 m1 m2 m3 m4 m5 l_a l_b l_c l_n m_x m_y m_d m_t m_v m_n r_s r_n r_w r_k) H → va_D A (w_RLM G r0 r1 r2 r3 l0 l1 l2 l3 m0 m1 m2 m3 m4 m5 l_a l_b l_c l_n m_x m_y m_d m_t m_v m_n r_s r_n r_w r_k) → va_S A s.heap H locs → lv_has ls 12 [(0, .ref r0), (1, .ref l0), (2, .ref m0), (3, .int x3), (4, .int x4), (5, .int x5), (6, .int x6), (7, .int x7)] → fX3_markBeyond_b43 N l_a l_b l_c l_n m_x m_y m_d x3 x4 x5 x6 x7 r_n s0 = some v → W p l e ({ frames := 2, cells := 0, slots := 0, locals := 49 } : Room) s m args below meth c H locs 0 0 (wQv G A below args s (w_RLM G r0 r1 r2 r3 l0 l1 l2 l3 m0 m1 m2 m3 m4 m5 l_a l_b l_c l_n m_x m_y m_d m_t m_v m_n r_s v r_w r_k) 0 0) (F0 m 43 ls [.int s0]) := by
    intro x3 x4 x5 x6 x7 r_n s0 H locs ls hP hD hS hl h
    rw [fX3_markBeyond_b43.eq_1] at h
    refine lv_istore (lv' := [(8, .int s0), (0, .ref r0), (1, .ref l0), (2, .ref m0), (3, .int x3), (4, .int x4), (5, .int x5), (6, .int x6), (7, .int x7)]) hx hb dX3_markBeyond_43 hl (by decide) rfl (fun ls hl => ?_)
    refine lv_iload hx hb dX3_markBeyond_45 (lv_at hl 0 rfl) ?_
    refine lv_if_eq (tgt := 55) hx hb dX3_markBeyond_47 (by decide) (fun c_362 => ?_) (fun c_362 => ?_)
    · have h := ip c_362 h
      refine lv_iload hx hb dX3_markBeyond_55 (lv_at hl 6 rfl) ?_
      refine lv_ineg hx hb dX3_markBeyond_57 ?_
      exact w_58  _ _ _ _ _ _ _ _ _  hP hD hS (lv_sub hl [1, 2, 3, 4, 5, 7, 8] rfl) h
    · have h := iq c_362 h
      refine lv_iload hx hb dX3_markBeyond_50 (lv_at hl 6 rfl) ?_
      refine lv_goto (tgt := 58) hx hb dX3_markBeyond_52 (by decide) ?_
      exact w_58  _ _ _ _ _ _ _ _ _  hP hD hS (lv_sub hl [1, 2, 3, 4, 5, 7, 8] rfl) h
  rw [fX3_markBeyond.eq_1] at h
  refine lv_aload_n hx hb dX3_markBeyond_0 rfl (lv_at hl 1 rfl) ?_
  refine lv_iload_n hx hb dX3_markBeyond_1 rfl (lv_at hl 3 rfl) ?_
  obtain ⟨u_363, hc_364, h⟩ := bd_inv h
  refine wafter_i (wr := [(r0, .inr (3, [.ref r1, .ref r2, .ref r3, .int r_k])), (r1, .inl (G.2.1, 46, .inl r_s)), (r2, .inl (G.2.1, 512, .inl r_n)), (r3, .inl (G.2.1, 512, .inl r_w)), (m0, .inr (2, [.ref m1, .ref m2, .ref m3, .ref m4, .ref m5, .int m_n])), (m1, .inl (G.2.1, 36, .inl m_x)), (m2, .inl (G.2.1, 36, .inl m_y)), (m3, .inl (G.2.1, 36, .inl m_d)), (m4, .inl (G.2.1, 36, .inl m_t)), (m5, .inl (G.2.1, 36, .inl m_v))]) (w2 := (w_RLM G r0 r1 r2 r3 l0 l1 l2 l3 m0 m1 m2 m3 m4 m5 l_a l_b l_c l_n m_x m_y m_d m_t m_v m_n r_s r_n r_w r_k)) (va_runV (As := [.int x3]) (rest := []) ⟨hx, hb, hml, hown, hts⟩ (kX1_b (l := l) (G := G) l0 l1 l2 l3 l_a l_b l_c l_n x3 N u_363 hc_364 _) (cwV 1 hts gX3_markBeyond_X1_b rfl rfl rfl (by decide +kernel) ⟨Nat.le_of_ble_eq_true rfl, Nat.le_of_ble_eq_true rfl⟩) (wPreV hP hD hK [4, 5, 6, 7] rfl rfl (ci := 1) (qb := 4) rfl rfl rfl) rfl rfl hl.1 rfl (lv_room (Nat.le_of_ble_eq_true rfl)) dX3_markBeyond_2 ⟨Nat.zero_le _, Nat.zero_le _⟩) hP hD hS hA [4, 5, 6, 7] [0, 1, 2, 3, 8, 9, 10, 11, 12, 13] [0, 1, 2, 3, 10, 11, 12, 13, 4, 5, 6, 7, 8, 9] rfl rfl rfl (by decide) rfl rfl (fun H locs hP hD hS => ?_)
  refine lv_istore (lv' := [(6, .int u_363), (0, .ref r0), (1, .ref l0), (2, .ref m0), (3, .int x3), (4, .int x4), (5, .int x5)]) hx hb dX3_markBeyond_5 hl (by decide) rfl (fun ls hl => ?_)
  refine lv_aload_n hx hb dX3_markBeyond_7 rfl (lv_at hl 2 rfl) ?_
  refine lv_iload_n hx hb dX3_markBeyond_8 rfl (lv_at hl 4 rfl) ?_
  obtain ⟨u_365, hc_366, h⟩ := bd_inv h
  refine wafter_i (wr := [(r0, .inr (3, [.ref r1, .ref r2, .ref r3, .int r_k])), (r1, .inl (G.2.1, 46, .inl r_s)), (r2, .inl (G.2.1, 512, .inl r_n)), (r3, .inl (G.2.1, 512, .inl r_w)), (m0, .inr (2, [.ref m1, .ref m2, .ref m3, .ref m4, .ref m5, .int m_n])), (m1, .inl (G.2.1, 36, .inl m_x)), (m2, .inl (G.2.1, 36, .inl m_y)), (m3, .inl (G.2.1, 36, .inl m_d)), (m4, .inl (G.2.1, 36, .inl m_t)), (m5, .inl (G.2.1, 36, .inl m_v))]) (w2 := (w_RLM G r0 r1 r2 r3 l0 l1 l2 l3 m0 m1 m2 m3 m4 m5 l_a l_b l_c l_n m_x m_y m_d m_t m_v m_n r_s r_n r_w r_k)) (va_runV (As := [.int x3]) (rest := []) ⟨hx, hb, hml, hown, hts⟩ (kX1_a (l := l) (G := G) l0 l1 l2 l3 l_a l_b l_c l_n x3 N u_365 hc_366 _) (cwV 1 hts gX3_markBeyond_X1_a rfl rfl rfl (by decide +kernel) ⟨Nat.le_of_ble_eq_true rfl, Nat.le_of_ble_eq_true rfl⟩) (wPreV hP hD hK [4, 5, 6, 7] rfl rfl (ci := 1) (qb := 4) rfl rfl rfl) rfl rfl hl.1 rfl (lv_room (Nat.le_of_ble_eq_true rfl)) dX3_markBeyond_9 ⟨Nat.zero_le _, Nat.zero_le _⟩) hP hD hS hA [4, 5, 6, 7] [0, 1, 2, 3, 8, 9, 10, 11, 12, 13] [0, 1, 2, 3, 10, 11, 12, 13, 4, 5, 6, 7, 8, 9] rfl rfl rfl (by decide) rfl rfl (fun H locs hP hD hS => ?_)
  refine lv_ineg hx hb dX3_markBeyond_12 ?_
  refine lv_istore (lv' := [(7, .int (-u_365)), (6, .int u_363), (0, .ref r0), (1, .ref l0), (2, .ref m0), (3, .int x3), (4, .int x4), (5, .int x5)]) hx hb dX3_markBeyond_13 hl (by decide) rfl (fun ls hl => ?_)
  refine lv_iload hx hb dX3_markBeyond_15 (lv_at hl 1 rfl) ?_
  refine lv_if_eq (tgt := 33) hx hb dX3_markBeyond_17 (by decide) (fun c_367 => ?_) (fun c_367 => ?_)
  · have h := ip c_367 h
    refine lv_iload hx hb dX3_markBeyond_33 (lv_at hl 0 rfl) ?_
    refine lv_if_le (tgt := 42) hx hb dX3_markBeyond_35 (by decide) (fun c_368 => ?_) (fun c_368 => ?_)
    · have h := ip c_368 h
      refine lv_iconst (v := 0) hx hb dX3_markBeyond_42 (by decide) ?_
      exact w_43  _ _ _ _ _ _ _ _ _ _  hP hD hS (lv_sub hl [2, 3, 4, 5, 6, 7, 1, 0] rfl) h
    · have h := iq c_368 h
      refine lv_iconst (v := 1) hx hb dX3_markBeyond_38 (by decide) ?_
      refine lv_goto (tgt := 43) hx hb dX3_markBeyond_39 (by decide) ?_
      exact w_43  _ _ _ _ _ _ _ _ _ _  hP hD hS (lv_sub hl [2, 3, 4, 5, 6, 7, 1, 0] rfl) h
  · have h := iq c_367 h
    refine lv_iload hx hb dX3_markBeyond_20 (lv_at hl 1 rfl) ?_
    refine lv_if_le (tgt := 29) hx hb dX3_markBeyond_22 (by decide) (fun c_369 => ?_) (fun c_369 => ?_)
    · have h := ip c_369 h
      refine lv_iconst (v := 0) hx hb dX3_markBeyond_29 (by decide) ?_
      refine lv_goto (tgt := 43) hx hb dX3_markBeyond_30 (by decide) ?_
      exact w_43  _ _ _ _ _ _ _ _ _ _  hP hD hS (lv_sub hl [2, 3, 4, 5, 6, 7, 1, 0] rfl) h
    · have h := iq c_369 h
      refine lv_iconst (v := 1) hx hb dX3_markBeyond_25 (by decide) ?_
      refine lv_goto (tgt := 43) hx hb dX3_markBeyond_26 (by decide) ?_
      exact w_43  _ _ _ _ _ _ _ _ _ _  hP hD hS (lv_sub hl [2, 3, 4, 5, 6, 7, 1, 0] rfl) h
def fX3_markBetween (N : Nat) (l_a : Nat → Int32) (l_b : Nat → Int32) (l_c : Nat → Int32) (l_n : Int32) (m_x : Nat → Int32) (m_y : Nat → Int32) (m_d : Nat → Int32) (r_n : Nat → Int32) (x3 : Int32) (x4 : Int32) (x5 : Int32) : Option ((Nat → Int32)) := bd (fX2_x N m_x x4) (fun u_370 => bd (fX2_d N m_d x5) (fun u_372 => bd (fX2_x N m_x x5) (fun u_374 => bd (fX2_d N m_d x4) (fun u_376 => nm ((u_370 * u_372) + (u_374 * u_376)) (fun x6_378 => bd (fX2_y N m_y x4) (fun u_379 => bd (fX2_d N m_d x5) (fun u_381 => bd (fX2_y N m_y x5) (fun u_383 => bd (fX2_d N m_d x4) (fun u_385 => nm ((u_379 * u_381) + (u_383 * u_385)) (fun x7_387 => bd (fX2_d N m_d x4) (fun u_388 => bd (fX2_d N m_d x5) (fun u_390 => bd (fX1_setBelow N l_a l_b l_c l_n x6_378 x7_387 ((2 * u_388) * u_390)) (fun u_392 => bd (fX3_markBeside N r_n x3 u_392) (fun u_394 => some u_394))))))))))))))
set_option maxHeartbeats 4000000 in
set_option maxRecDepth 100000 in
theorem kX3_markBetween {l : Launch} {G : wG} (r0 r1 r2 r3 l0 l1 l2 l3 m0 m1 m2 m3 m4 m5 : Nat) (l_a : Nat → Int32) (l_b : Nat → Int32) (l_c : Nat → Int32) (l_n : Int32) (m_x : Nat → Int32) (m_y : Nat → Int32) (m_d : Nat → Int32) (m_t : Nat → Int32) (m_v : Nat → Int32) (m_n : Int32) (r_s : Nat → Int32) (r_n : Nat → Int32) (r_w : Nat → Int32) (r_k : Int32) (x3 : Int32) (x4 : Int32) (x5 : Int32) (N : Nat) (v : (Nat → Int32)) (h : fX3_markBetween N l_a l_b l_c l_n m_x m_y m_d r_n x3 x4 x5 = some v) : wCv l G yX3_markBetween wsX3_markBetween ({ frames := 2, cells := 0, slots := 0, locals := 49 } : Room) [.ref r0, .ref l0, .ref m0, .int x3, .int x4, .int x5] (w_RLM G r0 r1 r2 r3 l0 l1 l2 l3 m0 m1 m2 m3 m4 m5 l_a l_b l_c l_n m_x m_y m_d m_t m_v m_n r_s r_n r_w r_k) (w_RLM G r0 r1 r2 r3 l0 l1 l2 l3 m0 m1 m2 m3 m4 m5 l_a l_b l_c l_n m_x m_y m_d m_t m_v m_n r_s v r_w r_k) 0 0 := by
  refine wCv.mk (cc := cX3_markBetween) (maxL := 8) (by decide) rfl (Nat.le_of_ble_eq_true rfl) ?_
  intro p e s m below meth c A ls hx hb hml hr hlocks hts hown hK hA hP hD hl
  have hx : p.tables.exec = Jvm.exec := hx
  have hown : s.vm.findClass RX3 = some m.cls := hown
  have hS : va_S A s.heap s.heap [] := va_S.rf
  have hP : va_P G.1 vwCl (w_RLM G r0 r1 r2 r3 l0 l1 l2 l3 m0 m1 m2 m3 m4 m5 l_a l_b l_c l_n m_x m_y m_d m_t m_v m_n r_s r_n r_w r_k) s.heap := hP
  have hD : va_D A (w_RLM G r0 r1 r2 r3 l0 l1 l2 l3 m0 m1 m2 m3 m4 m5 l_a l_b l_c l_n m_x m_y m_d m_t m_v m_n r_s r_n r_w r_k) := hD
  have hl : lv_has ls 8 [(0, .ref r0), (1, .ref l0), (2, .ref m0), (3, .int x3), (4, .int x4), (5, .int x5)] := hl
  obtain ⟨args, hargs⟩ : ∃ z : Array Value, z = ([.ref r0, .ref l0, .ref m0, .int x3, .int x4, .int x5] : List Value).toArray := ⟨_, rfl⟩
  rw [← hargs]
  rw [← hargs] at hts
  rw [fX3_markBetween.eq_1] at h
  refine lv_aload_n hx hb dX3_markBetween_0 rfl (lv_at hl 2 rfl) ?_
  refine lv_iload hx hb dX3_markBetween_1 (lv_at hl 4 rfl) ?_
  obtain ⟨u_370, hc_371, h⟩ := bd_inv h
  refine wafter_i (wr := [(r0, .inr (3, [.ref r1, .ref r2, .ref r3, .int r_k])), (r1, .inl (G.2.1, 46, .inl r_s)), (r2, .inl (G.2.1, 512, .inl r_n)), (r3, .inl (G.2.1, 512, .inl r_w)), (l0, .inr (1, [.ref l1, .ref l2, .ref l3, .int l_n])), (l1, .inl (G.2.1, 9, .inl l_a)), (l2, .inl (G.2.1, 9, .inl l_b)), (l3, .inl (G.2.1, 9, .inl l_c))]) (w2 := (w_RLM G r0 r1 r2 r3 l0 l1 l2 l3 m0 m1 m2 m3 m4 m5 l_a l_b l_c l_n m_x m_y m_d m_t m_v m_n r_s r_n r_w r_k)) (va_runV (As := [.int x4]) (rest := []) ⟨hx, hb, hml, hown, hts⟩ (kX2_x (l := l) (G := G) m0 m1 m2 m3 m4 m5 m_x m_y m_d m_t m_v m_n x4 N u_370 hc_371 _) (cwV 1 hts gX3_markBetween_X2_x rfl rfl rfl (by decide +kernel) ⟨Nat.le_of_ble_eq_true rfl, Nat.le_of_ble_eq_true rfl⟩) (wPreV hP hD hK [8, 9, 10, 11, 12, 13] rfl rfl (ci := 2) (qb := 8) rfl rfl rfl) rfl rfl hl.1 rfl (lv_room (Nat.le_of_ble_eq_true rfl)) dX3_markBetween_3 ⟨Nat.zero_le _, Nat.zero_le _⟩) hP hD hS hA [8, 9, 10, 11, 12, 13] [0, 1, 2, 3, 4, 5, 6, 7] [0, 1, 2, 3, 4, 5, 6, 7, 8, 9, 10, 11, 12, 13] rfl rfl rfl (by decide) rfl rfl (fun H locs hP hD hS => ?_)
  refine lv_aload_n hx hb dX3_markBetween_6 rfl (lv_at hl 2 rfl) ?_
  refine lv_iload hx hb dX3_markBetween_7 (lv_at hl 5 rfl) ?_
  obtain ⟨u_372, hc_373, h⟩ := bd_inv h
  refine wafter_i (wr := [(r0, .inr (3, [.ref r1, .ref r2, .ref r3, .int r_k])), (r1, .inl (G.2.1, 46, .inl r_s)), (r2, .inl (G.2.1, 512, .inl r_n)), (r3, .inl (G.2.1, 512, .inl r_w)), (l0, .inr (1, [.ref l1, .ref l2, .ref l3, .int l_n])), (l1, .inl (G.2.1, 9, .inl l_a)), (l2, .inl (G.2.1, 9, .inl l_b)), (l3, .inl (G.2.1, 9, .inl l_c))]) (w2 := (w_RLM G r0 r1 r2 r3 l0 l1 l2 l3 m0 m1 m2 m3 m4 m5 l_a l_b l_c l_n m_x m_y m_d m_t m_v m_n r_s r_n r_w r_k)) (va_runV (As := [.int x5]) (rest := [.int u_370]) ⟨hx, hb, hml, hown, hts⟩ (kX2_d (l := l) (G := G) m0 m1 m2 m3 m4 m5 m_x m_y m_d m_t m_v m_n x5 N u_372 hc_373 _) (cwV 1 hts gX3_markBetween_X2_d rfl rfl rfl (by decide +kernel) ⟨Nat.le_of_ble_eq_true rfl, Nat.le_of_ble_eq_true rfl⟩) (wPreV hP hD hK [8, 9, 10, 11, 12, 13] rfl rfl (ci := 2) (qb := 8) rfl rfl rfl) rfl rfl hl.1 rfl (lv_room (Nat.le_of_ble_eq_true rfl)) dX3_markBetween_9 ⟨Nat.zero_le _, Nat.zero_le _⟩) hP hD hS hA [8, 9, 10, 11, 12, 13] [0, 1, 2, 3, 4, 5, 6, 7] [0, 1, 2, 3, 4, 5, 6, 7, 8, 9, 10, 11, 12, 13] rfl rfl rfl (by decide) rfl rfl (fun H locs hP hD hS => ?_)
  refine lv_imul hx hb dX3_markBetween_12 ?_
  refine lv_aload_n hx hb dX3_markBetween_13 rfl (lv_at hl 2 rfl) ?_
  refine lv_iload hx hb dX3_markBetween_14 (lv_at hl 5 rfl) ?_
  obtain ⟨u_374, hc_375, h⟩ := bd_inv h
  refine wafter_i (wr := [(r0, .inr (3, [.ref r1, .ref r2, .ref r3, .int r_k])), (r1, .inl (G.2.1, 46, .inl r_s)), (r2, .inl (G.2.1, 512, .inl r_n)), (r3, .inl (G.2.1, 512, .inl r_w)), (l0, .inr (1, [.ref l1, .ref l2, .ref l3, .int l_n])), (l1, .inl (G.2.1, 9, .inl l_a)), (l2, .inl (G.2.1, 9, .inl l_b)), (l3, .inl (G.2.1, 9, .inl l_c))]) (w2 := (w_RLM G r0 r1 r2 r3 l0 l1 l2 l3 m0 m1 m2 m3 m4 m5 l_a l_b l_c l_n m_x m_y m_d m_t m_v m_n r_s r_n r_w r_k)) (va_runV (As := [.int x5]) (rest := [.int (u_370 * u_372)]) ⟨hx, hb, hml, hown, hts⟩ (kX2_x (l := l) (G := G) m0 m1 m2 m3 m4 m5 m_x m_y m_d m_t m_v m_n x5 N u_374 hc_375 _) (cwV 1 hts gX3_markBetween_X2_x rfl rfl rfl (by decide +kernel) ⟨Nat.le_of_ble_eq_true rfl, Nat.le_of_ble_eq_true rfl⟩) (wPreV hP hD hK [8, 9, 10, 11, 12, 13] rfl rfl (ci := 2) (qb := 8) rfl rfl rfl) rfl rfl hl.1 rfl (lv_room (Nat.le_of_ble_eq_true rfl)) dX3_markBetween_16 ⟨Nat.zero_le _, Nat.zero_le _⟩) hP hD hS hA [8, 9, 10, 11, 12, 13] [0, 1, 2, 3, 4, 5, 6, 7] [0, 1, 2, 3, 4, 5, 6, 7, 8, 9, 10, 11, 12, 13] rfl rfl rfl (by decide) rfl rfl (fun H locs hP hD hS => ?_)
  refine lv_aload_n hx hb dX3_markBetween_19 rfl (lv_at hl 2 rfl) ?_
  refine lv_iload hx hb dX3_markBetween_20 (lv_at hl 4 rfl) ?_
  obtain ⟨u_376, hc_377, h⟩ := bd_inv h
  refine wafter_i (wr := [(r0, .inr (3, [.ref r1, .ref r2, .ref r3, .int r_k])), (r1, .inl (G.2.1, 46, .inl r_s)), (r2, .inl (G.2.1, 512, .inl r_n)), (r3, .inl (G.2.1, 512, .inl r_w)), (l0, .inr (1, [.ref l1, .ref l2, .ref l3, .int l_n])), (l1, .inl (G.2.1, 9, .inl l_a)), (l2, .inl (G.2.1, 9, .inl l_b)), (l3, .inl (G.2.1, 9, .inl l_c))]) (w2 := (w_RLM G r0 r1 r2 r3 l0 l1 l2 l3 m0 m1 m2 m3 m4 m5 l_a l_b l_c l_n m_x m_y m_d m_t m_v m_n r_s r_n r_w r_k)) (va_runV (As := [.int x4]) (rest := [.int u_374, .int (u_370 * u_372)]) ⟨hx, hb, hml, hown, hts⟩ (kX2_d (l := l) (G := G) m0 m1 m2 m3 m4 m5 m_x m_y m_d m_t m_v m_n x4 N u_376 hc_377 _) (cwV 1 hts gX3_markBetween_X2_d rfl rfl rfl (by decide +kernel) ⟨Nat.le_of_ble_eq_true rfl, Nat.le_of_ble_eq_true rfl⟩) (wPreV hP hD hK [8, 9, 10, 11, 12, 13] rfl rfl (ci := 2) (qb := 8) rfl rfl rfl) rfl rfl hl.1 rfl (lv_room (Nat.le_of_ble_eq_true rfl)) dX3_markBetween_22 ⟨Nat.zero_le _, Nat.zero_le _⟩) hP hD hS hA [8, 9, 10, 11, 12, 13] [0, 1, 2, 3, 4, 5, 6, 7] [0, 1, 2, 3, 4, 5, 6, 7, 8, 9, 10, 11, 12, 13] rfl rfl rfl (by decide) rfl rfl (fun H locs hP hD hS => ?_)
  refine lv_imul hx hb dX3_markBetween_25 ?_
  refine lv_iadd hx hb dX3_markBetween_26 ?_
  refine wnmi h (fun x6_378 h => ?_)
  refine lv_istore (lv' := [(6, .int x6_378), (0, .ref r0), (1, .ref l0), (2, .ref m0), (3, .int x3), (4, .int x4), (5, .int x5)]) hx hb dX3_markBetween_27 hl (by decide) rfl (fun ls hl => ?_)
  refine lv_aload_n hx hb dX3_markBetween_29 rfl (lv_at hl 3 rfl) ?_
  refine lv_iload hx hb dX3_markBetween_30 (lv_at hl 5 rfl) ?_
  obtain ⟨u_379, hc_380, h⟩ := bd_inv h
  refine wafter_i (wr := [(r0, .inr (3, [.ref r1, .ref r2, .ref r3, .int r_k])), (r1, .inl (G.2.1, 46, .inl r_s)), (r2, .inl (G.2.1, 512, .inl r_n)), (r3, .inl (G.2.1, 512, .inl r_w)), (l0, .inr (1, [.ref l1, .ref l2, .ref l3, .int l_n])), (l1, .inl (G.2.1, 9, .inl l_a)), (l2, .inl (G.2.1, 9, .inl l_b)), (l3, .inl (G.2.1, 9, .inl l_c))]) (w2 := (w_RLM G r0 r1 r2 r3 l0 l1 l2 l3 m0 m1 m2 m3 m4 m5 l_a l_b l_c l_n m_x m_y m_d m_t m_v m_n r_s r_n r_w r_k)) (va_runV (As := [.int x4]) (rest := []) ⟨hx, hb, hml, hown, hts⟩ (kX2_y (l := l) (G := G) m0 m1 m2 m3 m4 m5 m_x m_y m_d m_t m_v m_n x4 N u_379 hc_380 _) (cwV 1 hts gX3_markBetween_X2_y rfl rfl rfl (by decide +kernel) ⟨Nat.le_of_ble_eq_true rfl, Nat.le_of_ble_eq_true rfl⟩) (wPreV hP hD hK [8, 9, 10, 11, 12, 13] rfl rfl (ci := 2) (qb := 8) rfl rfl rfl) rfl rfl hl.1 rfl (lv_room (Nat.le_of_ble_eq_true rfl)) dX3_markBetween_32 ⟨Nat.zero_le _, Nat.zero_le _⟩) hP hD hS hA [8, 9, 10, 11, 12, 13] [0, 1, 2, 3, 4, 5, 6, 7] [0, 1, 2, 3, 4, 5, 6, 7, 8, 9, 10, 11, 12, 13] rfl rfl rfl (by decide) rfl rfl (fun H locs hP hD hS => ?_)
  refine lv_aload_n hx hb dX3_markBetween_35 rfl (lv_at hl 3 rfl) ?_
  refine lv_iload hx hb dX3_markBetween_36 (lv_at hl 6 rfl) ?_
  obtain ⟨u_381, hc_382, h⟩ := bd_inv h
  refine wafter_i (wr := [(r0, .inr (3, [.ref r1, .ref r2, .ref r3, .int r_k])), (r1, .inl (G.2.1, 46, .inl r_s)), (r2, .inl (G.2.1, 512, .inl r_n)), (r3, .inl (G.2.1, 512, .inl r_w)), (l0, .inr (1, [.ref l1, .ref l2, .ref l3, .int l_n])), (l1, .inl (G.2.1, 9, .inl l_a)), (l2, .inl (G.2.1, 9, .inl l_b)), (l3, .inl (G.2.1, 9, .inl l_c))]) (w2 := (w_RLM G r0 r1 r2 r3 l0 l1 l2 l3 m0 m1 m2 m3 m4 m5 l_a l_b l_c l_n m_x m_y m_d m_t m_v m_n r_s r_n r_w r_k)) (va_runV (As := [.int x5]) (rest := [.int u_379]) ⟨hx, hb, hml, hown, hts⟩ (kX2_d (l := l) (G := G) m0 m1 m2 m3 m4 m5 m_x m_y m_d m_t m_v m_n x5 N u_381 hc_382 _) (cwV 1 hts gX3_markBetween_X2_d rfl rfl rfl (by decide +kernel) ⟨Nat.le_of_ble_eq_true rfl, Nat.le_of_ble_eq_true rfl⟩) (wPreV hP hD hK [8, 9, 10, 11, 12, 13] rfl rfl (ci := 2) (qb := 8) rfl rfl rfl) rfl rfl hl.1 rfl (lv_room (Nat.le_of_ble_eq_true rfl)) dX3_markBetween_38 ⟨Nat.zero_le _, Nat.zero_le _⟩) hP hD hS hA [8, 9, 10, 11, 12, 13] [0, 1, 2, 3, 4, 5, 6, 7] [0, 1, 2, 3, 4, 5, 6, 7, 8, 9, 10, 11, 12, 13] rfl rfl rfl (by decide) rfl rfl (fun H locs hP hD hS => ?_)
  refine lv_imul hx hb dX3_markBetween_41 ?_
  refine lv_aload_n hx hb dX3_markBetween_42 rfl (lv_at hl 3 rfl) ?_
  refine lv_iload hx hb dX3_markBetween_43 (lv_at hl 6 rfl) ?_
  obtain ⟨u_383, hc_384, h⟩ := bd_inv h
  refine wafter_i (wr := [(r0, .inr (3, [.ref r1, .ref r2, .ref r3, .int r_k])), (r1, .inl (G.2.1, 46, .inl r_s)), (r2, .inl (G.2.1, 512, .inl r_n)), (r3, .inl (G.2.1, 512, .inl r_w)), (l0, .inr (1, [.ref l1, .ref l2, .ref l3, .int l_n])), (l1, .inl (G.2.1, 9, .inl l_a)), (l2, .inl (G.2.1, 9, .inl l_b)), (l3, .inl (G.2.1, 9, .inl l_c))]) (w2 := (w_RLM G r0 r1 r2 r3 l0 l1 l2 l3 m0 m1 m2 m3 m4 m5 l_a l_b l_c l_n m_x m_y m_d m_t m_v m_n r_s r_n r_w r_k)) (va_runV (As := [.int x5]) (rest := [.int (u_379 * u_381)]) ⟨hx, hb, hml, hown, hts⟩ (kX2_y (l := l) (G := G) m0 m1 m2 m3 m4 m5 m_x m_y m_d m_t m_v m_n x5 N u_383 hc_384 _) (cwV 1 hts gX3_markBetween_X2_y rfl rfl rfl (by decide +kernel) ⟨Nat.le_of_ble_eq_true rfl, Nat.le_of_ble_eq_true rfl⟩) (wPreV hP hD hK [8, 9, 10, 11, 12, 13] rfl rfl (ci := 2) (qb := 8) rfl rfl rfl) rfl rfl hl.1 rfl (lv_room (Nat.le_of_ble_eq_true rfl)) dX3_markBetween_45 ⟨Nat.zero_le _, Nat.zero_le _⟩) hP hD hS hA [8, 9, 10, 11, 12, 13] [0, 1, 2, 3, 4, 5, 6, 7] [0, 1, 2, 3, 4, 5, 6, 7, 8, 9, 10, 11, 12, 13] rfl rfl rfl (by decide) rfl rfl (fun H locs hP hD hS => ?_)
  refine lv_aload_n hx hb dX3_markBetween_48 rfl (lv_at hl 3 rfl) ?_
  refine lv_iload hx hb dX3_markBetween_49 (lv_at hl 5 rfl) ?_
  obtain ⟨u_385, hc_386, h⟩ := bd_inv h
  refine wafter_i (wr := [(r0, .inr (3, [.ref r1, .ref r2, .ref r3, .int r_k])), (r1, .inl (G.2.1, 46, .inl r_s)), (r2, .inl (G.2.1, 512, .inl r_n)), (r3, .inl (G.2.1, 512, .inl r_w)), (l0, .inr (1, [.ref l1, .ref l2, .ref l3, .int l_n])), (l1, .inl (G.2.1, 9, .inl l_a)), (l2, .inl (G.2.1, 9, .inl l_b)), (l3, .inl (G.2.1, 9, .inl l_c))]) (w2 := (w_RLM G r0 r1 r2 r3 l0 l1 l2 l3 m0 m1 m2 m3 m4 m5 l_a l_b l_c l_n m_x m_y m_d m_t m_v m_n r_s r_n r_w r_k)) (va_runV (As := [.int x4]) (rest := [.int u_383, .int (u_379 * u_381)]) ⟨hx, hb, hml, hown, hts⟩ (kX2_d (l := l) (G := G) m0 m1 m2 m3 m4 m5 m_x m_y m_d m_t m_v m_n x4 N u_385 hc_386 _) (cwV 1 hts gX3_markBetween_X2_d rfl rfl rfl (by decide +kernel) ⟨Nat.le_of_ble_eq_true rfl, Nat.le_of_ble_eq_true rfl⟩) (wPreV hP hD hK [8, 9, 10, 11, 12, 13] rfl rfl (ci := 2) (qb := 8) rfl rfl rfl) rfl rfl hl.1 rfl (lv_room (Nat.le_of_ble_eq_true rfl)) dX3_markBetween_51 ⟨Nat.zero_le _, Nat.zero_le _⟩) hP hD hS hA [8, 9, 10, 11, 12, 13] [0, 1, 2, 3, 4, 5, 6, 7] [0, 1, 2, 3, 4, 5, 6, 7, 8, 9, 10, 11, 12, 13] rfl rfl rfl (by decide) rfl rfl (fun H locs hP hD hS => ?_)
  refine lv_imul hx hb dX3_markBetween_54 ?_
  refine lv_iadd hx hb dX3_markBetween_55 ?_
  refine wnmi h (fun x7_387 h => ?_)
  refine lv_istore (lv' := [(7, .int x7_387), (6, .int x6_378), (0, .ref r0), (1, .ref l0), (2, .ref m0), (3, .int x3), (4, .int x4), (5, .int x5)]) hx hb dX3_markBetween_56 hl (by decide) rfl (fun ls hl => ?_)
  refine lv_aload_n hx hb dX3_markBetween_58 rfl (lv_at hl 2 rfl) ?_
  refine lv_iload_n hx hb dX3_markBetween_59 rfl (lv_at hl 5 rfl) ?_
  refine lv_aload_n hx hb dX3_markBetween_60 rfl (lv_at hl 3 rfl) ?_
  refine lv_iload hx hb dX3_markBetween_61 (lv_at hl 1 rfl) ?_
  refine lv_iload hx hb dX3_markBetween_63 (lv_at hl 0 rfl) ?_
  refine lv_iconst (v := 2) hx hb dX3_markBetween_65 (by decide) ?_
  refine lv_aload_n hx hb dX3_markBetween_66 rfl (lv_at hl 4 rfl) ?_
  refine lv_iload hx hb dX3_markBetween_67 (lv_at hl 6 rfl) ?_
  obtain ⟨u_388, hc_389, h⟩ := bd_inv h
  refine wafter_i (wr := [(r0, .inr (3, [.ref r1, .ref r2, .ref r3, .int r_k])), (r1, .inl (G.2.1, 46, .inl r_s)), (r2, .inl (G.2.1, 512, .inl r_n)), (r3, .inl (G.2.1, 512, .inl r_w)), (l0, .inr (1, [.ref l1, .ref l2, .ref l3, .int l_n])), (l1, .inl (G.2.1, 9, .inl l_a)), (l2, .inl (G.2.1, 9, .inl l_b)), (l3, .inl (G.2.1, 9, .inl l_c))]) (w2 := (w_RLM G r0 r1 r2 r3 l0 l1 l2 l3 m0 m1 m2 m3 m4 m5 l_a l_b l_c l_n m_x m_y m_d m_t m_v m_n r_s r_n r_w r_k)) (va_runV (As := [.int x4]) (rest := [.int 2, .int x7_387, .int x6_378, .ref l0, .int x3, .ref r0]) ⟨hx, hb, hml, hown, hts⟩ (kX2_d (l := l) (G := G) m0 m1 m2 m3 m4 m5 m_x m_y m_d m_t m_v m_n x4 N u_388 hc_389 _) (cwV 1 hts gX3_markBetween_X2_d rfl rfl rfl (by decide +kernel) ⟨Nat.le_of_ble_eq_true rfl, Nat.le_of_ble_eq_true rfl⟩) (wPreV hP hD hK [8, 9, 10, 11, 12, 13] rfl rfl (ci := 2) (qb := 8) rfl rfl rfl) rfl rfl hl.1 rfl (lv_room (Nat.le_of_ble_eq_true rfl)) dX3_markBetween_69 ⟨Nat.zero_le _, Nat.zero_le _⟩) hP hD hS hA [8, 9, 10, 11, 12, 13] [0, 1, 2, 3, 4, 5, 6, 7] [0, 1, 2, 3, 4, 5, 6, 7, 8, 9, 10, 11, 12, 13] rfl rfl rfl (by decide) rfl rfl (fun H locs hP hD hS => ?_)
  refine lv_imul hx hb dX3_markBetween_72 ?_
  refine lv_aload_n hx hb dX3_markBetween_73 rfl (lv_at hl 4 rfl) ?_
  refine lv_iload hx hb dX3_markBetween_74 (lv_at hl 7 rfl) ?_
  obtain ⟨u_390, hc_391, h⟩ := bd_inv h
  refine wafter_i (wr := [(r0, .inr (3, [.ref r1, .ref r2, .ref r3, .int r_k])), (r1, .inl (G.2.1, 46, .inl r_s)), (r2, .inl (G.2.1, 512, .inl r_n)), (r3, .inl (G.2.1, 512, .inl r_w)), (l0, .inr (1, [.ref l1, .ref l2, .ref l3, .int l_n])), (l1, .inl (G.2.1, 9, .inl l_a)), (l2, .inl (G.2.1, 9, .inl l_b)), (l3, .inl (G.2.1, 9, .inl l_c))]) (w2 := (w_RLM G r0 r1 r2 r3 l0 l1 l2 l3 m0 m1 m2 m3 m4 m5 l_a l_b l_c l_n m_x m_y m_d m_t m_v m_n r_s r_n r_w r_k)) (va_runV (As := [.int x5]) (rest := [.int (2 * u_388), .int x7_387, .int x6_378, .ref l0, .int x3, .ref r0]) ⟨hx, hb, hml, hown, hts⟩ (kX2_d (l := l) (G := G) m0 m1 m2 m3 m4 m5 m_x m_y m_d m_t m_v m_n x5 N u_390 hc_391 _) (cwV 1 hts gX3_markBetween_X2_d rfl rfl rfl (by decide +kernel) ⟨Nat.le_of_ble_eq_true rfl, Nat.le_of_ble_eq_true rfl⟩) (wPreV hP hD hK [8, 9, 10, 11, 12, 13] rfl rfl (ci := 2) (qb := 8) rfl rfl rfl) rfl rfl hl.1 rfl (lv_room (Nat.le_of_ble_eq_true rfl)) dX3_markBetween_76 ⟨Nat.zero_le _, Nat.zero_le _⟩) hP hD hS hA [8, 9, 10, 11, 12, 13] [0, 1, 2, 3, 4, 5, 6, 7] [0, 1, 2, 3, 4, 5, 6, 7, 8, 9, 10, 11, 12, 13] rfl rfl rfl (by decide) rfl rfl (fun H locs hP hD hS => ?_)
  refine lv_imul hx hb dX3_markBetween_79 ?_
  obtain ⟨u_392, hc_393, h⟩ := bd_inv h
  refine wafter_i (wr := [(r0, .inr (3, [.ref r1, .ref r2, .ref r3, .int r_k])), (r1, .inl (G.2.1, 46, .inl r_s)), (r2, .inl (G.2.1, 512, .inl r_n)), (r3, .inl (G.2.1, 512, .inl r_w)), (m0, .inr (2, [.ref m1, .ref m2, .ref m3, .ref m4, .ref m5, .int m_n])), (m1, .inl (G.2.1, 36, .inl m_x)), (m2, .inl (G.2.1, 36, .inl m_y)), (m3, .inl (G.2.1, 36, .inl m_d)), (m4, .inl (G.2.1, 36, .inl m_t)), (m5, .inl (G.2.1, 36, .inl m_v))]) (w2 := (w_RLM G r0 r1 r2 r3 l0 l1 l2 l3 m0 m1 m2 m3 m4 m5 l_a l_b l_c l_n m_x m_y m_d m_t m_v m_n r_s r_n r_w r_k)) (va_runV (As := [.int x6_378, .int x7_387, .int ((2 * u_388) * u_390)]) (rest := [.int x3, .ref r0]) ⟨hx, hb, hml, hown, hts⟩ (kX1_setBelow (l := l) (G := G) l0 l1 l2 l3 l_a l_b l_c l_n x6_378 x7_387 ((2 * u_388) * u_390) N u_392 hc_393 _) (cwV 3 hts gX3_markBetween_X1_setBelow rfl rfl rfl (by decide +kernel) ⟨Nat.le_of_ble_eq_true rfl, Nat.le_of_ble_eq_true rfl⟩) (wPreV hP hD hK [4, 5, 6, 7] rfl rfl (ci := 1) (qb := 4) rfl rfl rfl) rfl rfl hl.1 rfl (lv_room (Nat.le_of_ble_eq_true rfl)) dX3_markBetween_80 ⟨Nat.zero_le _, Nat.zero_le _⟩) hP hD hS hA [4, 5, 6, 7] [0, 1, 2, 3, 8, 9, 10, 11, 12, 13] [0, 1, 2, 3, 10, 11, 12, 13, 4, 5, 6, 7, 8, 9] rfl rfl rfl (by decide) rfl rfl (fun H locs hP hD hS => ?_)
  obtain ⟨u_394, hc_395, h⟩ := bd_inv h
  refine wafter_v (wr := [(l0, .inr (1, [.ref l1, .ref l2, .ref l3, .int l_n])), (l1, .inl (G.2.1, 9, .inl l_a)), (l2, .inl (G.2.1, 9, .inl l_b)), (l3, .inl (G.2.1, 9, .inl l_c)), (m0, .inr (2, [.ref m1, .ref m2, .ref m3, .ref m4, .ref m5, .int m_n])), (m1, .inl (G.2.1, 36, .inl m_x)), (m2, .inl (G.2.1, 36, .inl m_y)), (m3, .inl (G.2.1, 36, .inl m_d)), (m4, .inl (G.2.1, 36, .inl m_t)), (m5, .inl (G.2.1, 36, .inl m_v))]) (w2 := (w_RLM G r0 r1 r2 r3 l0 l1 l2 l3 m0 m1 m2 m3 m4 m5 l_a l_b l_c l_n m_x m_y m_d m_t m_v m_n r_s u_394 r_w r_k)) (va_runV (As := [.int x3, .int u_392]) (rest := []) ⟨hx, hb, hml, hown, hts⟩ (kX3_markBeside (l := l) (G := G) r0 r1 r2 r3 r_s r_n r_w r_k x3 u_392 N u_394 hc_395 _) (cwV 2 hts gX3_markBetween_X3_markBeside rfl rfl rfl (by decide +kernel) ⟨Nat.le_of_ble_eq_true rfl, Nat.le_of_ble_eq_true rfl⟩) (wPreV hP hD hK [0, 1, 2, 3] rfl rfl (ci := 3) (qb := 0) rfl rfl rfl) rfl rfl hl.1 rfl (lv_room (Nat.le_of_ble_eq_true rfl)) dX3_markBetween_83 ⟨Nat.zero_le _, Nat.zero_le _⟩) hP hD hS hA [0, 1, 2, 3] [4, 5, 6, 7, 8, 9, 10, 11, 12, 13] [10, 11, 12, 13, 0, 1, 2, 3, 4, 5, 6, 7, 8, 9] rfl rfl rfl (by decide) rfl rfl (fun H locs hP hD hS => ?_)
  obtain rfl := Option.some.inj h
  exact wrv hx hb hr hlocks hP hD hS (Nat.le_of_ble_eq_true rfl) (Nat.le_of_ble_eq_true rfl) dX3_markBetween_86
def fX3_markUncrossed (N : Nat) (l_a : Nat → Int32) (l_b : Nat → Int32) (l_c : Nat → Int32) (l_n : Int32) (r_n : Nat → Int32) (x2 : Int32) : Option ((Nat → Int32)) := bd (fX1_a N l_a x2) (fun u_396 => bd (fX1_b N l_b x2) (fun u_398 => bd (fX1_c N l_c x2) (fun u_400 => bd (fX1_setBelow N l_a l_b l_c l_n (u_396 * u_400) (u_398 * u_400) ((u_396 * u_396) + (u_398 * u_398))) (fun u_402 => bd (fX3_markBeside N r_n x2 u_402) (fun u_404 => some u_404)))))
set_option maxHeartbeats 4000000 in
set_option maxRecDepth 100000 in
theorem kX3_markUncrossed {l : Launch} {G : wG} (r0 r1 r2 r3 l0 l1 l2 l3 : Nat) (l_a : Nat → Int32) (l_b : Nat → Int32) (l_c : Nat → Int32) (l_n : Int32) (r_s : Nat → Int32) (r_n : Nat → Int32) (r_w : Nat → Int32) (r_k : Int32) (x2 : Int32) (N : Nat) (v : (Nat → Int32)) (h : fX3_markUncrossed N l_a l_b l_c l_n r_n x2 = some v) : wCv l G yX3_markUncrossed wsX3_markUncrossed ({ frames := 2, cells := 0, slots := 0, locals := 49 } : Room) [.ref r0, .ref l0, .int x2] (w_RL G r0 r1 r2 r3 l0 l1 l2 l3 l_a l_b l_c l_n r_s r_n r_w r_k) (w_RL G r0 r1 r2 r3 l0 l1 l2 l3 l_a l_b l_c l_n r_s v r_w r_k) 0 0 := by
  refine wCv.mk (cc := cX3_markUncrossed) (maxL := 6) (by decide) rfl (Nat.le_of_ble_eq_true rfl) ?_
  intro p e s m below meth c A ls hx hb hml hr hlocks hts hown hK hA hP hD hl
  have hx : p.tables.exec = Jvm.exec := hx
  have hown : s.vm.findClass RX3 = some m.cls := hown
  have hS : va_S A s.heap s.heap [] := va_S.rf
  have hP : va_P G.1 vwCl (w_RL G r0 r1 r2 r3 l0 l1 l2 l3 l_a l_b l_c l_n r_s r_n r_w r_k) s.heap := hP
  have hD : va_D A (w_RL G r0 r1 r2 r3 l0 l1 l2 l3 l_a l_b l_c l_n r_s r_n r_w r_k) := hD
  have hl : lv_has ls 6 [(0, .ref r0), (1, .ref l0), (2, .int x2)] := hl
  obtain ⟨args, hargs⟩ : ∃ z : Array Value, z = ([.ref r0, .ref l0, .int x2] : List Value).toArray := ⟨_, rfl⟩
  rw [← hargs]
  rw [← hargs] at hts
  rw [fX3_markUncrossed.eq_1] at h
  refine lv_aload_n hx hb dX3_markUncrossed_0 rfl (lv_at hl 1 rfl) ?_
  refine lv_iload_n hx hb dX3_markUncrossed_1 rfl (lv_at hl 2 rfl) ?_
  obtain ⟨u_396, hc_397, h⟩ := bd_inv h
  refine wafter_i (wr := [(r0, .inr (3, [.ref r1, .ref r2, .ref r3, .int r_k])), (r1, .inl (G.2.1, 46, .inl r_s)), (r2, .inl (G.2.1, 512, .inl r_n)), (r3, .inl (G.2.1, 512, .inl r_w))]) (w2 := (w_RL G r0 r1 r2 r3 l0 l1 l2 l3 l_a l_b l_c l_n r_s r_n r_w r_k)) (va_runV (As := [.int x2]) (rest := []) ⟨hx, hb, hml, hown, hts⟩ (kX1_a (l := l) (G := G) l0 l1 l2 l3 l_a l_b l_c l_n x2 N u_396 hc_397 _) (cwV 1 hts gX3_markUncrossed_X1_a rfl rfl rfl (by decide +kernel) ⟨Nat.le_of_ble_eq_true rfl, Nat.le_of_ble_eq_true rfl⟩) (wPreV hP hD hK [4, 5, 6, 7] rfl rfl (ci := 1) (qb := 4) rfl rfl rfl) rfl rfl hl.1 rfl (lv_room (Nat.le_of_ble_eq_true rfl)) dX3_markUncrossed_2 ⟨Nat.zero_le _, Nat.zero_le _⟩) hP hD hS hA [4, 5, 6, 7] [0, 1, 2, 3] [0, 1, 2, 3, 4, 5, 6, 7] rfl rfl rfl (by decide) rfl rfl (fun H locs hP hD hS => ?_)
  refine lv_istore_n (lv' := [(3, .int u_396), (0, .ref r0), (1, .ref l0), (2, .int x2)]) hx hb dX3_markUncrossed_5 rfl hl (by decide) rfl (fun ls hl => ?_)
  refine lv_aload_n hx hb dX3_markUncrossed_6 rfl (lv_at hl 2 rfl) ?_
  refine lv_iload_n hx hb dX3_markUncrossed_7 rfl (lv_at hl 3 rfl) ?_
  obtain ⟨u_398, hc_399, h⟩ := bd_inv h
  refine wafter_i (wr := [(r0, .inr (3, [.ref r1, .ref r2, .ref r3, .int r_k])), (r1, .inl (G.2.1, 46, .inl r_s)), (r2, .inl (G.2.1, 512, .inl r_n)), (r3, .inl (G.2.1, 512, .inl r_w))]) (w2 := (w_RL G r0 r1 r2 r3 l0 l1 l2 l3 l_a l_b l_c l_n r_s r_n r_w r_k)) (va_runV (As := [.int x2]) (rest := []) ⟨hx, hb, hml, hown, hts⟩ (kX1_b (l := l) (G := G) l0 l1 l2 l3 l_a l_b l_c l_n x2 N u_398 hc_399 _) (cwV 1 hts gX3_markUncrossed_X1_b rfl rfl rfl (by decide +kernel) ⟨Nat.le_of_ble_eq_true rfl, Nat.le_of_ble_eq_true rfl⟩) (wPreV hP hD hK [4, 5, 6, 7] rfl rfl (ci := 1) (qb := 4) rfl rfl rfl) rfl rfl hl.1 rfl (lv_room (Nat.le_of_ble_eq_true rfl)) dX3_markUncrossed_8 ⟨Nat.zero_le _, Nat.zero_le _⟩) hP hD hS hA [4, 5, 6, 7] [0, 1, 2, 3] [0, 1, 2, 3, 4, 5, 6, 7] rfl rfl rfl (by decide) rfl rfl (fun H locs hP hD hS => ?_)
  refine lv_istore (lv' := [(4, .int u_398), (3, .int u_396), (0, .ref r0), (1, .ref l0), (2, .int x2)]) hx hb dX3_markUncrossed_11 hl (by decide) rfl (fun ls hl => ?_)
  refine lv_aload_n hx hb dX3_markUncrossed_13 rfl (lv_at hl 3 rfl) ?_
  refine lv_iload_n hx hb dX3_markUncrossed_14 rfl (lv_at hl 4 rfl) ?_
  obtain ⟨u_400, hc_401, h⟩ := bd_inv h
  refine wafter_i (wr := [(r0, .inr (3, [.ref r1, .ref r2, .ref r3, .int r_k])), (r1, .inl (G.2.1, 46, .inl r_s)), (r2, .inl (G.2.1, 512, .inl r_n)), (r3, .inl (G.2.1, 512, .inl r_w))]) (w2 := (w_RL G r0 r1 r2 r3 l0 l1 l2 l3 l_a l_b l_c l_n r_s r_n r_w r_k)) (va_runV (As := [.int x2]) (rest := []) ⟨hx, hb, hml, hown, hts⟩ (kX1_c (l := l) (G := G) l0 l1 l2 l3 l_a l_b l_c l_n x2 N u_400 hc_401 _) (cwV 1 hts gX3_markUncrossed_X1_c rfl rfl rfl (by decide +kernel) ⟨Nat.le_of_ble_eq_true rfl, Nat.le_of_ble_eq_true rfl⟩) (wPreV hP hD hK [4, 5, 6, 7] rfl rfl (ci := 1) (qb := 4) rfl rfl rfl) rfl rfl hl.1 rfl (lv_room (Nat.le_of_ble_eq_true rfl)) dX3_markUncrossed_15 ⟨Nat.zero_le _, Nat.zero_le _⟩) hP hD hS hA [4, 5, 6, 7] [0, 1, 2, 3] [0, 1, 2, 3, 4, 5, 6, 7] rfl rfl rfl (by decide) rfl rfl (fun H locs hP hD hS => ?_)
  refine lv_istore (lv' := [(5, .int u_400), (4, .int u_398), (3, .int u_396), (0, .ref r0), (1, .ref l0), (2, .int x2)]) hx hb dX3_markUncrossed_18 hl (by decide) rfl (fun ls hl => ?_)
  refine lv_aload_n hx hb dX3_markUncrossed_20 rfl (lv_at hl 3 rfl) ?_
  refine lv_iload_n hx hb dX3_markUncrossed_21 rfl (lv_at hl 5 rfl) ?_
  refine lv_aload_n hx hb dX3_markUncrossed_22 rfl (lv_at hl 4 rfl) ?_
  refine lv_iload_n hx hb dX3_markUncrossed_23 rfl (lv_at hl 2 rfl) ?_
  refine lv_iload hx hb dX3_markUncrossed_24 (lv_at hl 0 rfl) ?_
  refine lv_imul hx hb dX3_markUncrossed_26 ?_
  refine lv_iload hx hb dX3_markUncrossed_27 (lv_at hl 1 rfl) ?_
  refine lv_iload hx hb dX3_markUncrossed_29 (lv_at hl 0 rfl) ?_
  refine lv_imul hx hb dX3_markUncrossed_31 ?_
  refine lv_iload_n hx hb dX3_markUncrossed_32 rfl (lv_at hl 2 rfl) ?_
  refine lv_iload_n hx hb dX3_markUncrossed_33 rfl (lv_at hl 2 rfl) ?_
  refine lv_imul hx hb dX3_markUncrossed_34 ?_
  refine lv_iload hx hb dX3_markUncrossed_35 (lv_at hl 1 rfl) ?_
  refine lv_iload hx hb dX3_markUncrossed_37 (lv_at hl 1 rfl) ?_
  refine lv_imul hx hb dX3_markUncrossed_39 ?_
  refine lv_iadd hx hb dX3_markUncrossed_40 ?_
  obtain ⟨u_402, hc_403, h⟩ := bd_inv h
  refine wafter_i (wr := [(r0, .inr (3, [.ref r1, .ref r2, .ref r3, .int r_k])), (r1, .inl (G.2.1, 46, .inl r_s)), (r2, .inl (G.2.1, 512, .inl r_n)), (r3, .inl (G.2.1, 512, .inl r_w))]) (w2 := (w_RL G r0 r1 r2 r3 l0 l1 l2 l3 l_a l_b l_c l_n r_s r_n r_w r_k)) (va_runV (As := [.int (u_396 * u_400), .int (u_398 * u_400), .int ((u_396 * u_396) + (u_398 * u_398))]) (rest := [.int x2, .ref r0]) ⟨hx, hb, hml, hown, hts⟩ (kX1_setBelow (l := l) (G := G) l0 l1 l2 l3 l_a l_b l_c l_n (u_396 * u_400) (u_398 * u_400) ((u_396 * u_396) + (u_398 * u_398)) N u_402 hc_403 _) (cwV 3 hts gX3_markUncrossed_X1_setBelow rfl rfl rfl (by decide +kernel) ⟨Nat.le_of_ble_eq_true rfl, Nat.le_of_ble_eq_true rfl⟩) (wPreV hP hD hK [4, 5, 6, 7] rfl rfl (ci := 1) (qb := 4) rfl rfl rfl) rfl rfl hl.1 rfl (lv_room (Nat.le_of_ble_eq_true rfl)) dX3_markUncrossed_41 ⟨Nat.zero_le _, Nat.zero_le _⟩) hP hD hS hA [4, 5, 6, 7] [0, 1, 2, 3] [0, 1, 2, 3, 4, 5, 6, 7] rfl rfl rfl (by decide) rfl rfl (fun H locs hP hD hS => ?_)
  obtain ⟨u_404, hc_405, h⟩ := bd_inv h
  refine wafter_v (wr := [(l0, .inr (1, [.ref l1, .ref l2, .ref l3, .int l_n])), (l1, .inl (G.2.1, 9, .inl l_a)), (l2, .inl (G.2.1, 9, .inl l_b)), (l3, .inl (G.2.1, 9, .inl l_c))]) (w2 := (w_RL G r0 r1 r2 r3 l0 l1 l2 l3 l_a l_b l_c l_n r_s u_404 r_w r_k)) (va_runV (As := [.int x2, .int u_402]) (rest := []) ⟨hx, hb, hml, hown, hts⟩ (kX3_markBeside (l := l) (G := G) r0 r1 r2 r3 r_s r_n r_w r_k x2 u_402 N u_404 hc_405 _) (cwV 2 hts gX3_markUncrossed_X3_markBeside rfl rfl rfl (by decide +kernel) ⟨Nat.le_of_ble_eq_true rfl, Nat.le_of_ble_eq_true rfl⟩) (wPreV hP hD hK [0, 1, 2, 3] rfl rfl (ci := 3) (qb := 0) rfl rfl rfl) rfl rfl hl.1 rfl (lv_room (Nat.le_of_ble_eq_true rfl)) dX3_markUncrossed_44 ⟨Nat.zero_le _, Nat.zero_le _⟩) hP hD hS hA [0, 1, 2, 3] [4, 5, 6, 7] [4, 5, 6, 7, 0, 1, 2, 3] rfl rfl rfl (by decide) rfl rfl (fun H locs hP hD hS => ?_)
  obtain rfl := Option.some.inj h
  exact wrv hx hb hr hlocks hP hD hS (Nat.le_of_ble_eq_true rfl) (Nat.le_of_ble_eq_true rfl) dX3_markUncrossed_47
def fX3_markAlong_b6 (N : Nat) (l_a : Nat → Int32) (l_b : Nat → Int32) (l_c : Nat → Int32) (l_n : Int32) (m_x : Nat → Int32) (m_y : Nat → Int32) (m_d : Nat → Int32) (m_t : Nat → Int32) (m_n : Int32) (x3 : Int32) (k_68 : Int32 → (Nat → Int32) → Option ((Nat → Int32))) : Nat → Int32 → Int32 → (Nat → Int32) → Option ((Nat → Int32))
  | 0, _, _, _ => none
  | n + 1, x4, x5, r_n => bd (fX2_count N m_n) (fun u_406 => if u_406 ≤ x5 then k_68 x4 r_n else bd (fX2_isOn N m_t x5 x3) (fun u_409 => if u_409 = 0 then fX3_markAlong_b6 N l_a l_b l_c l_n m_x m_y m_d m_t m_n x3 k_68 n x4 (x5 + 1) r_n else if x4 = (-1) then bd (fX3_markBeyond N l_a l_b l_c l_n m_x m_y m_d r_n x3 x5 (-1)) (fun u_415 => fX3_markAlong_b6 N l_a l_b l_c l_n m_x m_y m_d m_t m_n x3 k_68 n x5 (x5 + 1) u_415) else bd (fX3_markBetween N l_a l_b l_c l_n m_x m_y m_d r_n x3 x4 x5) (fun u_413 => fX3_markAlong_b6 N l_a l_b l_c l_n m_x m_y m_d m_t m_n x3 k_68 n x5 (x5 + 1) u_413)))
def fX3_markAlong (N : Nat) (l_a : Nat → Int32) (l_b : Nat → Int32) (l_c : Nat → Int32) (l_n : Int32) (m_x : Nat → Int32) (m_y : Nat → Int32) (m_d : Nat → Int32) (m_t : Nat → Int32) (m_n : Int32) (r_n : Nat → Int32) (x3 : Int32) : Option ((Nat → Int32)) := fX3_markAlong_b6 N l_a l_b l_c l_n m_x m_y m_d m_t m_n x3 (fun (x4_417 : Int32) (r_n_418 : Nat → Int32) => if x4_417 = (-1) then bd (fX3_markUncrossed N l_a l_b l_c l_n r_n_418 x3) (fun u_422 => some u_422) else bd (fX3_markBeyond N l_a l_b l_c l_n m_x m_y m_d r_n_418 x3 x4_417 1) (fun u_420 => some u_420)) N (-1) 0 r_n
set_option maxHeartbeats 4000000 in
set_option maxRecDepth 100000 in
theorem kX3_markAlong {l : Launch} {G : wG} (r0 r1 r2 r3 l0 l1 l2 l3 m0 m1 m2 m3 m4 m5 : Nat) (l_a : Nat → Int32) (l_b : Nat → Int32) (l_c : Nat → Int32) (l_n : Int32) (m_x : Nat → Int32) (m_y : Nat → Int32) (m_d : Nat → Int32) (m_t : Nat → Int32) (m_v : Nat → Int32) (m_n : Int32) (r_s : Nat → Int32) (r_n : Nat → Int32) (r_w : Nat → Int32) (r_k : Int32) (x3 : Int32) (N : Nat) (v : (Nat → Int32)) (h : fX3_markAlong N l_a l_b l_c l_n m_x m_y m_d m_t m_n r_n x3 = some v) : wCv l G yX3_markAlong wsX3_markAlong ({ frames := 3, cells := 0, slots := 0, locals := 80 } : Room) [.ref r0, .ref l0, .ref m0, .int x3] (w_RLM G r0 r1 r2 r3 l0 l1 l2 l3 m0 m1 m2 m3 m4 m5 l_a l_b l_c l_n m_x m_y m_d m_t m_v m_n r_s r_n r_w r_k) (w_RLM G r0 r1 r2 r3 l0 l1 l2 l3 m0 m1 m2 m3 m4 m5 l_a l_b l_c l_n m_x m_y m_d m_t m_v m_n r_s v r_w r_k) 0 0 := by
  refine wCv.mk (cc := cX3_markAlong) (maxL := 6) (by decide) rfl (Nat.le_of_ble_eq_true rfl) ?_
  intro p e s m below meth c A ls hx hb hml hr hlocks hts hown hK hA hP hD hl
  have hx : p.tables.exec = Jvm.exec := hx
  have hown : s.vm.findClass RX3 = some m.cls := hown
  have hS : va_S A s.heap s.heap [] := va_S.rf
  have hP : va_P G.1 vwCl (w_RLM G r0 r1 r2 r3 l0 l1 l2 l3 m0 m1 m2 m3 m4 m5 l_a l_b l_c l_n m_x m_y m_d m_t m_v m_n r_s r_n r_w r_k) s.heap := hP
  have hD : va_D A (w_RLM G r0 r1 r2 r3 l0 l1 l2 l3 m0 m1 m2 m3 m4 m5 l_a l_b l_c l_n m_x m_y m_d m_t m_v m_n r_s r_n r_w r_k) := hD
  have hl : lv_has ls 6 [(0, .ref r0), (1, .ref l0), (2, .ref m0), (3, .int x3)] := hl
  obtain ⟨args, hargs⟩ : ∃ z : Array Value, z = ([.ref r0, .ref l0, .ref m0, .int x3] : List Value).toArray := ⟨_, rfl⟩
  rw [← hargs]
  rw [← hargs] at hts
  have w_6 : ∀ (k_68 : Int32 → (Nat → Int32) → Option ((Nat → Int32))) (x3 : Int32)  (_z : Unit), (∀ (y4 : Int32) (yr_n : Nat → Int32) (H : Heap) (locs : List Loc) (ls : Array Slot), va_P G.1 vwCl (w_RLM G r0 r1 r2 r3 l0 l1 l2 l3 m0 m1 m2 m3 m4 m5 l_a l_b l_c l_n m_x m_y m_d m_t m_v m_n r_s yr_n r_w r_k) H → va_D A (w_RLM G r0 r1 r2 r3 l0 l1 l2 l3 m0 m1 m2 m3 m4 m5 l_a l_b l_c l_n m_x m_y m_d m_t m_v m_n r_s yr_n r_w r_k) → va_S A s.heap H locs → lv_has ls 6 [(0, .ref r0), (1, .ref l0), (2, .ref m0), (3, .int x3), (4, .int y4)] → k_68 y4 yr_n = some v → W p l e ({ frames := 3, cells := 0, slots := 0, locals := 80 } : Room) s m args below meth c H locs 0 0 (wQv G A below args s (w_RLM G r0 r1 r2 r3 l0 l1 l2 l3 m0 m1 m2 m3 m4 m5 l_a l_b l_c l_n m_x m_y m_d m_t m_v m_n r_s v r_w r_k) 0 0) (F0 m 68 ls [])) → ∀ (n : Nat) (x4 : Int32) (x5 : Int32) (r_n : Nat → Int32) (H : Heap) (locs : List Loc) (ls : Array Slot), va_P G.1 vwCl (w_RLM G r0 r1 r2 r3 l0 l1 l2 l3 m0 m1 m2 m3 m4 m5 l_a l_b l_c l_n m_x m_y m_d m_t m_v m_n r_s r_n r_w r_k) H → va_D A (w_RLM G r0 r1 r2 r3 l0 l1 l2 l3 m0 m1 m2 m3 m4 m5 l_a l_b l_c l_n m_x m_y m_d m_t m_v m_n r_s r_n r_w r_k) → va_S A s.heap H locs → lv_has ls 6 [(0, .ref r0), (1, .ref l0), (2, .ref m0), (3, .int x3), (4, .int x4), (5, .int x5)] → fX3_markAlong_b6 N l_a l_b l_c l_n m_x m_y m_d m_t m_n x3 k_68 n x4 x5 r_n = some v → W p l e ({ frames := 3, cells := 0, slots := 0, locals := 80 } : Room) s m args below meth c H locs 0 0 (wQv G A below args s (w_RLM G r0 r1 r2 r3 l0 l1 l2 l3 m0 m1 m2 m3 m4 m5 l_a l_b l_c l_n m_x m_y m_d m_t m_v m_n r_s v r_w r_k) 0 0) (F0 m 6 ls []) := by
    intro k_68 x3 _z hk_68 n
    induction n with
    | zero =>
      intro x4 x5 r_n H locs ls hP hD hS hl h
      rw [fX3_markAlong_b6.eq_1] at h
      cases h
    | succ n ih =>
      intro x4 x5 r_n H locs ls hP hD hS hl h
      rw [fX3_markAlong_b6.eq_2] at h
      refine lv_iload hx hb dX3_markAlong_6 (lv_at hl 5 rfl) ?_
      refine lv_aload_n hx hb dX3_markAlong_8 rfl (lv_at hl 2 rfl) ?_
      obtain ⟨u_406, hc_407, h⟩ := bd_inv h
      refine wafter_i (wr := [(r0, .inr (3, [.ref r1, .ref r2, .ref r3, .int r_k])), (r1, .inl (G.2.1, 46, .inl r_s)), (r2, .inl (G.2.1, 512, .inl r_n)), (r3, .inl (G.2.1, 512, .inl r_w)), (l0, .inr (1, [.ref l1, .ref l2, .ref l3, .int l_n])), (l1, .inl (G.2.1, 9, .inl l_a)), (l2, .inl (G.2.1, 9, .inl l_b)), (l3, .inl (G.2.1, 9, .inl l_c))]) (w2 := (w_RLM G r0 r1 r2 r3 l0 l1 l2 l3 m0 m1 m2 m3 m4 m5 l_a l_b l_c l_n m_x m_y m_d m_t m_v m_n r_s r_n r_w r_k)) (va_runV (As := []) (rest := [.int x5]) ⟨hx, hb, hml, hown, hts⟩ (kX2_count (l := l) (G := G) m0 m1 m2 m3 m4 m5 m_x m_y m_d m_t m_v m_n  N u_406 hc_407 _) (cwV 0 hts gX3_markAlong_X2_count rfl rfl rfl (by decide +kernel) ⟨Nat.le_of_ble_eq_true rfl, Nat.le_of_ble_eq_true rfl⟩) (wPreV hP hD hK [8, 9, 10, 11, 12, 13] rfl rfl (ci := 2) (qb := 8) rfl rfl rfl) rfl rfl hl.1 rfl (lv_room (Nat.le_of_ble_eq_true rfl)) dX3_markAlong_9 ⟨Nat.zero_le _, Nat.zero_le _⟩) hP hD hS hA [8, 9, 10, 11, 12, 13] [0, 1, 2, 3, 4, 5, 6, 7] [0, 1, 2, 3, 4, 5, 6, 7, 8, 9, 10, 11, 12, 13] rfl rfl rfl (by decide) rfl rfl (fun H locs hP hD hS => ?_)
      refine lv_icmp_ge (tgt := 68) hx hb dX3_markAlong_12 (by decide) (fun c_408 => ?_) (fun c_408 => ?_)
      · have h := ip c_408 h
        exact hk_68 _ _ _ _ _ hP hD hS (lv_sub hl [0, 1, 2, 3, 4] rfl) h
      · have h := iq c_408 h
        refine lv_aload_n hx hb dX3_markAlong_15 rfl (lv_at hl 2 rfl) ?_
        refine lv_iload hx hb dX3_markAlong_16 (lv_at hl 5 rfl) ?_
        refine lv_iload_n hx hb dX3_markAlong_18 rfl (lv_at hl 3 rfl) ?_
        obtain ⟨u_409, hc_410, h⟩ := bd_inv h
        refine wafter_i (wr := [(r0, .inr (3, [.ref r1, .ref r2, .ref r3, .int r_k])), (r1, .inl (G.2.1, 46, .inl r_s)), (r2, .inl (G.2.1, 512, .inl r_n)), (r3, .inl (G.2.1, 512, .inl r_w)), (l0, .inr (1, [.ref l1, .ref l2, .ref l3, .int l_n])), (l1, .inl (G.2.1, 9, .inl l_a)), (l2, .inl (G.2.1, 9, .inl l_b)), (l3, .inl (G.2.1, 9, .inl l_c))]) (w2 := (w_RLM G r0 r1 r2 r3 l0 l1 l2 l3 m0 m1 m2 m3 m4 m5 l_a l_b l_c l_n m_x m_y m_d m_t m_v m_n r_s r_n r_w r_k)) (va_runV (As := [.int x5, .int x3]) (rest := []) ⟨hx, hb, hml, hown, hts⟩ (kX2_isOn (l := l) (G := G) m0 m1 m2 m3 m4 m5 m_x m_y m_d m_t m_v m_n x5 x3 N u_409 hc_410 _) (cwV 2 hts gX3_markAlong_X2_isOn rfl rfl rfl (by decide +kernel) ⟨Nat.le_of_ble_eq_true rfl, Nat.le_of_ble_eq_true rfl⟩) (wPreV hP hD hK [8, 9, 10, 11, 12, 13] rfl rfl (ci := 2) (qb := 8) rfl rfl rfl) rfl rfl hl.1 rfl (lv_room (Nat.le_of_ble_eq_true rfl)) dX3_markAlong_19 ⟨Nat.zero_le _, Nat.zero_le _⟩) hP hD hS hA [8, 9, 10, 11, 12, 13] [0, 1, 2, 3, 4, 5, 6, 7] [0, 1, 2, 3, 4, 5, 6, 7, 8, 9, 10, 11, 12, 13] rfl rfl rfl (by decide) rfl rfl (fun H locs hP hD hS => ?_)
        refine lv_if_ne (tgt := 28) hx hb dX3_markAlong_22 (by decide) (fun c_411 => ?_) (fun c_411 => ?_)
        · have h := iq c_411 h
          refine lv_iload hx hb dX3_markAlong_28 (lv_at hl 4 rfl) ?_
          refine lv_iconst (v := (-1)) hx hb dX3_markAlong_30 (by decide) ?_
          refine lv_icmp_ne (tgt := 47) hx hb dX3_markAlong_31 (by decide) (fun c_412 => ?_) (fun c_412 => ?_)
          · have h := iq c_412 h
            refine lv_aload_n hx hb dX3_markAlong_47 rfl (lv_at hl 0 rfl) ?_
            refine lv_aload_n hx hb dX3_markAlong_48 rfl (lv_at hl 1 rfl) ?_
            refine lv_aload_n hx hb dX3_markAlong_49 rfl (lv_at hl 2 rfl) ?_
            refine lv_iload_n hx hb dX3_markAlong_50 rfl (lv_at hl 3 rfl) ?_
            refine lv_iload hx hb dX3_markAlong_51 (lv_at hl 4 rfl) ?_
            refine lv_iload hx hb dX3_markAlong_53 (lv_at hl 5 rfl) ?_
            obtain ⟨u_413, hc_414, h⟩ := bd_inv h
            refine wafter_v (wr := []) (w2 := (w_RLM G r0 r1 r2 r3 l0 l1 l2 l3 m0 m1 m2 m3 m4 m5 l_a l_b l_c l_n m_x m_y m_d m_t m_v m_n r_s u_413 r_w r_k)) (va_runV (As := [.ref l0, .ref m0, .int x3, .int x4, .int x5]) (rest := []) ⟨hx, hb, hml, hown, hts⟩ (kX3_markBetween (l := l) (G := G) r0 r1 r2 r3 l0 l1 l2 l3 m0 m1 m2 m3 m4 m5 l_a l_b l_c l_n m_x m_y m_d m_t m_v m_n r_s r_n r_w r_k x3 x4 x5 N u_413 hc_414 _) (cwV 5 hts gX3_markAlong_X3_markBetween rfl rfl rfl (by decide +kernel) ⟨Nat.le_of_ble_eq_true rfl, Nat.le_of_ble_eq_true rfl⟩) (wPreV hP hD hK [0, 1, 2, 3, 4, 5, 6, 7, 8, 9, 10, 11, 12, 13] rfl rfl (ci := 3) (qb := 0) rfl rfl rfl) rfl rfl hl.1 rfl (lv_room (Nat.le_of_ble_eq_true rfl)) dX3_markAlong_55 ⟨Nat.zero_le _, Nat.zero_le _⟩) hP hD hS hA [0, 1, 2, 3, 4, 5, 6, 7, 8, 9, 10, 11, 12, 13] [] [0, 1, 2, 3, 4, 5, 6, 7, 8, 9, 10, 11, 12, 13] rfl rfl rfl (by decide) rfl rfl (fun H locs hP hD hS => ?_)
            refine lv_iload hx hb dX3_markAlong_58 (lv_at hl 5 rfl) ?_
            refine lv_istore (lv' := [(4, .int x5), (0, .ref r0), (1, .ref l0), (2, .ref m0), (3, .int x3), (5, .int x5)]) hx hb dX3_markAlong_60 hl (by decide) rfl (fun ls hl => ?_)
            refine lv_iinc (v := (x5 + 1)) (lv' := [(5, .int (x5 + 1)), (4, .int x5), (0, .ref r0), (1, .ref l0), (2, .ref m0), (3, .int x3)]) hx hb dX3_markAlong_62 hl (k := 5) rfl rfl (by decide) rfl (fun ls hl => ?_)
            refine lv_goto (tgt := 6) hx hb dX3_markAlong_65 (by decide) ?_
            exact ih _ _ _ _ _ _ hP hD hS (lv_sub hl [2, 3, 4, 5, 1, 0] rfl) h
          · have h := ip c_412 h
            refine lv_aload_n hx hb dX3_markAlong_34 rfl (lv_at hl 0 rfl) ?_
            refine lv_aload_n hx hb dX3_markAlong_35 rfl (lv_at hl 1 rfl) ?_
            refine lv_aload_n hx hb dX3_markAlong_36 rfl (lv_at hl 2 rfl) ?_
            refine lv_iload_n hx hb dX3_markAlong_37 rfl (lv_at hl 3 rfl) ?_
            refine lv_iload hx hb dX3_markAlong_38 (lv_at hl 5 rfl) ?_
            refine lv_iconst (v := (-1)) hx hb dX3_markAlong_40 (by decide) ?_
            obtain ⟨u_415, hc_416, h⟩ := bd_inv h
            refine wafter_v (wr := []) (w2 := (w_RLM G r0 r1 r2 r3 l0 l1 l2 l3 m0 m1 m2 m3 m4 m5 l_a l_b l_c l_n m_x m_y m_d m_t m_v m_n r_s u_415 r_w r_k)) (va_runV (As := [.ref l0, .ref m0, .int x3, .int x5, .int (-1)]) (rest := []) ⟨hx, hb, hml, hown, hts⟩ (kX3_markBeyond (l := l) (G := G) r0 r1 r2 r3 l0 l1 l2 l3 m0 m1 m2 m3 m4 m5 l_a l_b l_c l_n m_x m_y m_d m_t m_v m_n r_s r_n r_w r_k x3 x5 (-1) N u_415 hc_416 _) (cwV 5 hts gX3_markAlong_X3_markBeyond rfl rfl rfl (by decide +kernel) ⟨Nat.le_of_ble_eq_true rfl, Nat.le_of_ble_eq_true rfl⟩) (wPreV hP hD hK [0, 1, 2, 3, 4, 5, 6, 7, 8, 9, 10, 11, 12, 13] rfl rfl (ci := 3) (qb := 0) rfl rfl rfl) rfl rfl hl.1 rfl (lv_room (Nat.le_of_ble_eq_true rfl)) dX3_markAlong_41 ⟨Nat.zero_le _, Nat.zero_le _⟩) hP hD hS hA [0, 1, 2, 3, 4, 5, 6, 7, 8, 9, 10, 11, 12, 13] [] [0, 1, 2, 3, 4, 5, 6, 7, 8, 9, 10, 11, 12, 13] rfl rfl rfl (by decide) rfl rfl (fun H locs hP hD hS => ?_)
            refine lv_goto (tgt := 58) hx hb dX3_markAlong_44 (by decide) ?_
            refine lv_iload hx hb dX3_markAlong_58 (lv_at hl 5 rfl) ?_
            refine lv_istore (lv' := [(4, .int x5), (0, .ref r0), (1, .ref l0), (2, .ref m0), (3, .int x3), (5, .int x5)]) hx hb dX3_markAlong_60 hl (by decide) rfl (fun ls hl => ?_)
            refine lv_iinc (v := (x5 + 1)) (lv' := [(5, .int (x5 + 1)), (4, .int x5), (0, .ref r0), (1, .ref l0), (2, .ref m0), (3, .int x3)]) hx hb dX3_markAlong_62 hl (k := 5) rfl rfl (by decide) rfl (fun ls hl => ?_)
            refine lv_goto (tgt := 6) hx hb dX3_markAlong_65 (by decide) ?_
            exact ih _ _ _ _ _ _ hP hD hS (lv_sub hl [2, 3, 4, 5, 1, 0] rfl) h
        · have h := ip c_411 h
          refine lv_goto (tgt := 62) hx hb dX3_markAlong_25 (by decide) ?_
          refine lv_iinc (v := (x5 + 1)) (lv' := [(5, .int (x5 + 1)), (0, .ref r0), (1, .ref l0), (2, .ref m0), (3, .int x3), (4, .int x4)]) hx hb dX3_markAlong_62 hl (k := 5) rfl rfl (by decide) rfl (fun ls hl => ?_)
          refine lv_goto (tgt := 6) hx hb dX3_markAlong_65 (by decide) ?_
          exact ih _ _ _ _ _ _ hP hD hS (lv_sub hl [1, 2, 3, 4, 5, 0] rfl) h
  rw [fX3_markAlong.eq_1] at h
  refine lv_iconst (v := (-1)) hx hb dX3_markAlong_0 (by decide) ?_
  refine lv_istore (lv' := [(4, .int (-1)), (0, .ref r0), (1, .ref l0), (2, .ref m0), (3, .int x3)]) hx hb dX3_markAlong_1 hl (by decide) rfl (fun ls hl => ?_)
  refine lv_iconst (v := 0) hx hb dX3_markAlong_3 (by decide) ?_
  refine lv_istore (lv' := [(5, .int 0), (4, .int (-1)), (0, .ref r0), (1, .ref l0), (2, .ref m0), (3, .int x3)]) hx hb dX3_markAlong_4 hl (by decide) rfl (fun ls hl => ?_)
  refine w_6 _ _  () (fun x4_417 r_n_418 H locs ls hP hD hS hl h => ?_) N _ _ _ _ _ _ hP hD hS (lv_sub hl [2, 3, 4, 5, 1, 0] rfl) h
  refine lv_iload hx hb dX3_markAlong_68 (lv_at hl 4 rfl) ?_
  refine lv_iconst (v := (-1)) hx hb dX3_markAlong_70 (by decide) ?_
  refine lv_icmp_ne (tgt := 83) hx hb dX3_markAlong_71 (by decide) (fun c_419 => ?_) (fun c_419 => ?_)
  · have h := iq c_419 h
    refine lv_aload_n hx hb dX3_markAlong_83 rfl (lv_at hl 0 rfl) ?_
    refine lv_aload_n hx hb dX3_markAlong_84 rfl (lv_at hl 1 rfl) ?_
    refine lv_aload_n hx hb dX3_markAlong_85 rfl (lv_at hl 2 rfl) ?_
    refine lv_iload_n hx hb dX3_markAlong_86 rfl (lv_at hl 3 rfl) ?_
    refine lv_iload hx hb dX3_markAlong_87 (lv_at hl 4 rfl) ?_
    refine lv_iconst (v := 1) hx hb dX3_markAlong_89 (by decide) ?_
    obtain ⟨u_420, hc_421, h⟩ := bd_inv h
    refine wafter_v (wr := []) (w2 := (w_RLM G r0 r1 r2 r3 l0 l1 l2 l3 m0 m1 m2 m3 m4 m5 l_a l_b l_c l_n m_x m_y m_d m_t m_v m_n r_s u_420 r_w r_k)) (va_runV (As := [.ref l0, .ref m0, .int x3, .int x4_417, .int 1]) (rest := []) ⟨hx, hb, hml, hown, hts⟩ (kX3_markBeyond (l := l) (G := G) r0 r1 r2 r3 l0 l1 l2 l3 m0 m1 m2 m3 m4 m5 l_a l_b l_c l_n m_x m_y m_d m_t m_v m_n r_s r_n_418 r_w r_k x3 x4_417 1 N u_420 hc_421 _) (cwV 5 hts gX3_markAlong_X3_markBeyond rfl rfl rfl (by decide +kernel) ⟨Nat.le_of_ble_eq_true rfl, Nat.le_of_ble_eq_true rfl⟩) (wPreV hP hD hK [0, 1, 2, 3, 4, 5, 6, 7, 8, 9, 10, 11, 12, 13] rfl rfl (ci := 3) (qb := 0) rfl rfl rfl) rfl rfl hl.1 rfl (lv_room (Nat.le_of_ble_eq_true rfl)) dX3_markAlong_90 ⟨Nat.zero_le _, Nat.zero_le _⟩) hP hD hS hA [0, 1, 2, 3, 4, 5, 6, 7, 8, 9, 10, 11, 12, 13] [] [0, 1, 2, 3, 4, 5, 6, 7, 8, 9, 10, 11, 12, 13] rfl rfl rfl (by decide) rfl rfl (fun H locs hP hD hS => ?_)
    obtain rfl := Option.some.inj h
    exact wrv hx hb hr hlocks hP hD hS (Nat.le_of_ble_eq_true rfl) (Nat.le_of_ble_eq_true rfl) dX3_markAlong_93
  · have h := ip c_419 h
    refine lv_aload_n hx hb dX3_markAlong_74 rfl (lv_at hl 0 rfl) ?_
    refine lv_aload_n hx hb dX3_markAlong_75 rfl (lv_at hl 1 rfl) ?_
    refine lv_iload_n hx hb dX3_markAlong_76 rfl (lv_at hl 3 rfl) ?_
    obtain ⟨u_422, hc_423, h⟩ := bd_inv h
    refine wafter_v (wr := [(m0, .inr (2, [.ref m1, .ref m2, .ref m3, .ref m4, .ref m5, .int m_n])), (m1, .inl (G.2.1, 36, .inl m_x)), (m2, .inl (G.2.1, 36, .inl m_y)), (m3, .inl (G.2.1, 36, .inl m_d)), (m4, .inl (G.2.1, 36, .inl m_t)), (m5, .inl (G.2.1, 36, .inl m_v))]) (w2 := (w_RLM G r0 r1 r2 r3 l0 l1 l2 l3 m0 m1 m2 m3 m4 m5 l_a l_b l_c l_n m_x m_y m_d m_t m_v m_n r_s u_422 r_w r_k)) (va_runV (As := [.ref l0, .int x3]) (rest := []) ⟨hx, hb, hml, hown, hts⟩ (kX3_markUncrossed (l := l) (G := G) r0 r1 r2 r3 l0 l1 l2 l3 l_a l_b l_c l_n r_s r_n_418 r_w r_k x3 N u_422 hc_423 _) (cwV 2 hts gX3_markAlong_X3_markUncrossed rfl rfl rfl (by decide +kernel) ⟨Nat.le_of_ble_eq_true rfl, Nat.le_of_ble_eq_true rfl⟩) (wPreV hP hD hK [0, 1, 2, 3, 4, 5, 6, 7] rfl rfl (ci := 3) (qb := 0) rfl rfl rfl) rfl rfl hl.1 rfl (lv_room (Nat.le_of_ble_eq_true rfl)) dX3_markAlong_77 ⟨Nat.zero_le _, Nat.zero_le _⟩) hP hD hS hA [0, 1, 2, 3, 4, 5, 6, 7] [8, 9, 10, 11, 12, 13] [6, 7, 8, 9, 10, 11, 12, 13, 0, 1, 2, 3, 4, 5] rfl rfl rfl (by decide) rfl rfl (fun H locs hP hD hS => ?_)
    refine lv_goto (tgt := 93) hx hb dX3_markAlong_80 (by decide) ?_
    obtain rfl := Option.some.inj h
    exact wrv hx hb hr hlocks hP hD hS (Nat.le_of_ble_eq_true rfl) (Nat.le_of_ble_eq_true rfl) dX3_markAlong_93
def fX3_giveNumbers_b7 (N : Nat) : Nat → Int32 → (Nat → Int32) → (Nat → Int32) → Int32 → Option ((Nat → Int32) × (Nat → Int32) × Int32)
  | 0, _, _, _, _ => none
  | n + 1, x1, r_s, r_n, r_k => if 512 ≤ x1 then some (r_s, r_n, r_k) else rd r_n 512 x1 (fun v_425 => if v_425 = (-1) then fX3_giveNumbers_b7 N n (x1 + 1) r_s r_n r_k else if 46 ≤ r_k then fX3_giveNumbers_b7 N n (x1 + 1) r_s r_n r_k else ck 512 x1 (ck 46 r_k (fX3_giveNumbers_b7 N n (x1 + 1) ((upd r_s (Int32.toNatClampNeg r_k) x1)) ((upd r_n (Int32.toNatClampNeg x1) r_k)) ((r_k + 1)))))
def fX3_giveNumbers (N : Nat) (r_s : Nat → Int32) (r_n : Nat → Int32) (r_k : Int32) : Option ((Nat → Int32) × (Nat → Int32) × Int32) := fX3_giveNumbers_b7 N N 0 r_s r_n 0
set_option maxHeartbeats 4000000 in
set_option maxRecDepth 100000 in
theorem kX3_giveNumbers {l : Launch} {G : wG} (r0 r1 r2 r3 : Nat) (r_s : Nat → Int32) (r_n : Nat → Int32) (r_w : Nat → Int32) (r_k : Int32) (N : Nat) (v : (Nat → Int32) × (Nat → Int32) × Int32) (h : fX3_giveNumbers N r_s r_n r_k = some v) : wCv l G yX3_giveNumbers wsX3_giveNumbers ({ frames := 0, cells := 0, slots := 0, locals := 0 } : Room) [.ref r0] (w_R G r0 r1 r2 r3 r_s r_n r_w r_k) (w_R G r0 r1 r2 r3 v.1 v.2.1 r_w v.2.2) 0 0 := by
  refine wCv.mk (cc := cX3_giveNumbers) (maxL := 2) (by decide) rfl (Nat.le_of_ble_eq_true rfl) ?_
  intro p e s m below meth c A ls hx hb hml hr hlocks hts hown hK hA hP hD hl
  have hx : p.tables.exec = Jvm.exec := hx
  have hown : s.vm.findClass RX3 = some m.cls := hown
  have hinX3 : ∀ w ∈ wsX30, w ∈ wsX3_giveNumbers := by decide +kernel
  have lk15 := hts (.fieldLink RX3 15 "Chamberwright$Rooms" "numbers" "[I") (by decide +kernel)
  have lk21 := hts (.fieldLink RX3 21 "Chamberwright$Rooms" "count" "I") (by decide +kernel)
  have lk9 := hts (.fieldLink RX3 9 "Chamberwright$Rooms" "sets" "[I") (by decide +kernel)
  have hS : va_S A s.heap s.heap [] := va_S.rf
  have hP : va_P G.1 vwCl (w_R G r0 r1 r2 r3 r_s r_n r_w r_k) s.heap := hP
  have hD : va_D A (w_R G r0 r1 r2 r3 r_s r_n r_w r_k) := hD
  have hl : lv_has ls 2 [(0, .ref r0)] := hl
  obtain ⟨args, hargs⟩ : ∃ z : Array Value, z = ([.ref r0] : List Value).toArray := ⟨_, rfl⟩
  rw [← hargs]
  rw [← hargs] at hts
  have w_7 : ∀   (_z : Unit), ∀ (n : Nat) (x1 : Int32) (r_s : Nat → Int32) (r_n : Nat → Int32) (r_k : Int32) (H : Heap) (locs : List Loc) (ls : Array Slot), va_P G.1 vwCl (w_R G r0 r1 r2 r3 r_s r_n r_w r_k) H → va_D A (w_R G r0 r1 r2 r3 r_s r_n r_w r_k) → va_S A s.heap H locs → lv_has ls 2 [(0, .ref r0), (1, .int x1)] → fX3_giveNumbers_b7 N n x1 r_s r_n r_k = some v → W p l e ({ frames := 0, cells := 0, slots := 0, locals := 0 } : Room) s m args below meth c H locs 0 0 (wQv G A below args s (w_R G r0 r1 r2 r3 v.1 v.2.1 r_w v.2.2) 0 0) (F0 m 7 ls []) := by
    intro _z n
    induction n with
    | zero =>
      intro x1 r_s r_n r_k H locs ls hP hD hS hl h
      rw [fX3_giveNumbers_b7.eq_1] at h
      cases h
    | succ n ih =>
      intro x1 r_s r_n r_k H locs ls hP hD hS hl h
      rw [fX3_giveNumbers_b7.eq_2] at h
      refine lv_iload_n hx hb dX3_giveNumbers_7 rfl (lv_at hl 1 rfl) ?_
      refine lv_sipush (v := 512) hx hb dX3_giveNumbers_8 (by decide) ?_
      refine lv_icmp_ge (tgt := 69) hx hb dX3_giveNumbers_11 (by decide) (fun c_424 => ?_) (fun c_424 => ?_)
      · have h := ip c_424 h
        obtain rfl := Option.some.inj h
        exact wrv hx hb hr hlocks hP hD hS (Nat.le_of_ble_eq_true rfl) (Nat.le_of_ble_eq_true rfl) dX3_giveNumbers_69
      · have h := iq c_424 h
        refine lv_aload_n hx hb dX3_giveNumbers_14 rfl (lv_at hl 0 rfl) ?_
        refine va_get (D := G.1) (ci := 3) (v := .ref r2) (C := RX3) (T := TX3) (N := 4) hx hb hts hinX3 hown hK.1 hP 0 rfl rfl 1 (by decide) lk15 (fun _ h9 => h9) rfl dX3_giveNumbers_15 ?_
        refine lv_iload_n hx hb dX3_giveNumbers_18 rfl (lv_at hl 1 rfl) ?_
        refine wiald h hx hb hK hP 2 rfl dX3_giveNumbers_19 (fun v_425 h => ?_)
        refine lv_iconst (v := (-1)) hx hb dX3_giveNumbers_20 (by decide) ?_
        refine lv_icmp_eq (tgt := 63) hx hb dX3_giveNumbers_21 (by decide) (fun c_426 => ?_) (fun c_426 => ?_)
        · have h := ip c_426 h
          refine lv_iinc (v := (x1 + 1)) (lv' := [(1, .int (x1 + 1)), (0, .ref r0)]) hx hb dX3_giveNumbers_63 hl (k := 1) rfl rfl (by decide) rfl (fun ls hl => ?_)
          refine lv_goto (tgt := 7) hx hb dX3_giveNumbers_66 (by decide) ?_
          exact ih _ _ _ _ _ _ _ hP hD hS (lv_sub hl [1, 0] rfl) h
        · have h := iq c_426 h
          refine lv_aload_n hx hb dX3_giveNumbers_24 rfl (lv_at hl 0 rfl) ?_
          refine va_get (D := G.1) (ci := 3) (v := .int r_k) (C := RX3) (T := TX3) (N := 4) hx hb hts hinX3 hown hK.1 hP 0 rfl rfl 3 (by decide) lk21 (fun _ h9 => h9) rfl dX3_giveNumbers_25 ?_
          refine lv_bipush (v := 46) hx hb dX3_giveNumbers_28 (by decide) ?_
          refine lv_icmp_ge (tgt := 63) hx hb dX3_giveNumbers_30 (by decide) (fun c_427 => ?_) (fun c_427 => ?_)
          · have h := ip c_427 h
            refine lv_iinc (v := (x1 + 1)) (lv' := [(1, .int (x1 + 1)), (0, .ref r0)]) hx hb dX3_giveNumbers_63 hl (k := 1) rfl rfl (by decide) rfl (fun ls hl => ?_)
            refine lv_goto (tgt := 7) hx hb dX3_giveNumbers_66 (by decide) ?_
            exact ih _ _ _ _ _ _ _ hP hD hS (lv_sub hl [1, 0] rfl) h
          · have h := iq c_427 h
            refine lv_aload_n hx hb dX3_giveNumbers_33 rfl (lv_at hl 0 rfl) ?_
            refine va_get (D := G.1) (ci := 3) (v := .ref r2) (C := RX3) (T := TX3) (N := 4) hx hb hts hinX3 hown hK.1 hP 0 rfl rfl 1 (by decide) lk15 (fun _ h9 => h9) rfl dX3_giveNumbers_34 ?_
            refine lv_iload_n hx hb dX3_giveNumbers_37 rfl (lv_at hl 1 rfl) ?_
            refine lv_aload_n hx hb dX3_giveNumbers_38 rfl (lv_at hl 0 rfl) ?_
            refine va_get (D := G.1) (ci := 3) (v := .int r_k) (C := RX3) (T := TX3) (N := 4) hx hb hts hinX3 hown hK.1 hP 0 rfl rfl 3 (by decide) lk21 (fun _ h9 => h9) rfl dX3_giveNumbers_39 ?_
            refine wiast h hx hb hK hP hD hS 2 rfl dX3_giveNumbers_42 (fun H locs hP hD hS h => ?_)
            have hP : va_P G.1 vwCl (w_R G r0 r1 r2 r3 r_s ((upd r_n (Int32.toNatClampNeg x1) r_k)) r_w r_k) H := hP
            have hD : va_D A (w_R G r0 r1 r2 r3 r_s ((upd r_n (Int32.toNatClampNeg x1) r_k)) r_w r_k) := hD
            refine lv_aload_n hx hb dX3_giveNumbers_43 rfl (lv_at hl 0 rfl) ?_
            refine va_get (D := G.1) (ci := 3) (v := .ref r1) (C := RX3) (T := TX3) (N := 4) hx hb hts hinX3 hown hK.1 hP 0 rfl rfl 0 (by decide) lk9 (fun _ h9 => h9) rfl dX3_giveNumbers_44 ?_
            refine lv_aload_n hx hb dX3_giveNumbers_47 rfl (lv_at hl 0 rfl) ?_
            refine va_get (D := G.1) (ci := 3) (v := .int r_k) (C := RX3) (T := TX3) (N := 4) hx hb hts hinX3 hown hK.1 hP 0 rfl rfl 3 (by decide) lk21 (fun _ h9 => h9) rfl dX3_giveNumbers_48 ?_
            refine lv_iload_n hx hb dX3_giveNumbers_51 rfl (lv_at hl 1 rfl) ?_
            refine wiast h hx hb hK hP hD hS 1 rfl dX3_giveNumbers_52 (fun H locs hP hD hS h => ?_)
            have hP : va_P G.1 vwCl (w_R G r0 r1 r2 r3 ((upd r_s (Int32.toNatClampNeg r_k) x1)) ((upd r_n (Int32.toNatClampNeg x1) r_k)) r_w r_k) H := hP
            have hD : va_D A (w_R G r0 r1 r2 r3 ((upd r_s (Int32.toNatClampNeg r_k) x1)) ((upd r_n (Int32.toNatClampNeg x1) r_k)) r_w r_k) := hD
            refine lv_aload_n hx hb dX3_giveNumbers_53 rfl (lv_at hl 0 rfl) ?_
            refine lv_dup hx hb dX3_giveNumbers_54 rfl ?_
            refine va_get (D := G.1) (ci := 3) (v := .int r_k) (C := RX3) (T := TX3) (N := 4) hx hb hts hinX3 hown hK.1 hP 0 rfl rfl 3 (by decide) lk21 (fun _ h9 => h9) rfl dX3_giveNumbers_55 ?_
            refine lv_iconst (v := 1) hx hb dX3_giveNumbers_58 (by decide) ?_
            refine lv_iadd hx hb dX3_giveNumbers_59 ?_
            refine va_put (D := G.1) (ci := 3) (v := .int (r_k + 1)) (ty := .int) (C := RX3) (T := TX3) (N := 4) hx hb hts hinX3 tyX3 tyX3_ok nmX3 hown hK.1 hP hD hS 0 rfl rfl 3 (by decide) lk21 (fun _ h9 => h9) rfl (by decide +kernel) rfl rfl (Nat.le_of_ble_eq_true rfl) dX3_giveNumbers_60 (fun H locs hP hD hS => ?_)
            have hP : va_P G.1 vwCl (w_R G r0 r1 r2 r3 ((upd r_s (Int32.toNatClampNeg r_k) x1)) ((upd r_n (Int32.toNatClampNeg x1) r_k)) r_w ((r_k + 1))) H := hP
            have hD : va_D A (w_R G r0 r1 r2 r3 ((upd r_s (Int32.toNatClampNeg r_k) x1)) ((upd r_n (Int32.toNatClampNeg x1) r_k)) r_w ((r_k + 1))) := hD
            refine lv_iinc (v := (x1 + 1)) (lv' := [(1, .int (x1 + 1)), (0, .ref r0)]) hx hb dX3_giveNumbers_63 hl (k := 1) rfl rfl (by decide) rfl (fun ls hl => ?_)
            refine lv_goto (tgt := 7) hx hb dX3_giveNumbers_66 (by decide) ?_
            exact ih _ _ _ _ _ _ _ hP hD hS (lv_sub hl [1, 0] rfl) h
  rw [fX3_giveNumbers.eq_1] at h
  refine lv_aload_n hx hb dX3_giveNumbers_0 rfl (lv_at hl 0 rfl) ?_
  refine lv_iconst (v := 0) hx hb dX3_giveNumbers_1 (by decide) ?_
  refine va_put (D := G.1) (ci := 3) (v := .int 0) (ty := .int) (C := RX3) (T := TX3) (N := 4) hx hb hts hinX3 tyX3 tyX3_ok nmX3 hown hK.1 hP hD hS 0 rfl rfl 3 (by decide) lk21 (fun _ h9 => h9) rfl (by decide +kernel) rfl rfl (Nat.le_of_ble_eq_true rfl) dX3_giveNumbers_2 (fun H locs hP hD hS => ?_)
  have hP : va_P G.1 vwCl (w_R G r0 r1 r2 r3 r_s r_n r_w 0) H := hP
  have hD : va_D A (w_R G r0 r1 r2 r3 r_s r_n r_w 0) := hD
  refine lv_iconst (v := 0) hx hb dX3_giveNumbers_5 (by decide) ?_
  refine lv_istore_n (lv' := [(1, .int 0), (0, .ref r0)]) hx hb dX3_giveNumbers_6 rfl hl (by decide) rfl (fun ls hl => ?_)
  exact w_7    ()  N _ _ _ _ _ _ _ hP hD hS (lv_sub hl [1, 0] rfl) h
def fX3_find_b2 (N : Nat) (k_22 : (Nat → Int32) → Option ((Nat → Int32) × (Nat → Int32) × Int32)) : Nat → Int32 → (Nat → Int32) → Option ((Nat → Int32) × (Nat → Int32) × Int32)
  | 0, _, _ => none
  | n + 1, x3, r_n => if 512 ≤ x3 then k_22 r_n else ck 512 x3 (fX3_find_b2 N k_22 n (x3 + 1) ((upd r_n (Int32.toNatClampNeg x3) (-1))))
def fX3_find_b38 (N : Nat) (l_a : Nat → Int32) (l_b : Nat → Int32) (l_c : Nat → Int32) (l_n : Int32) (m_x : Nat → Int32) (m_y : Nat → Int32) (m_d : Nat → Int32) (m_t : Nat → Int32) (m_n : Int32) (k_59 : (Nat → Int32) → Option ((Nat → Int32) × (Nat → Int32) × Int32)) : Nat → Int32 → (Nat → Int32) → Option ((Nat → Int32) × (Nat → Int32) × Int32)
  | 0, _, _ => none
  | n + 1, x3, r_n => bd (fX1_count N l_n) (fun u_429 => if u_429 ≤ x3 then k_59 r_n else bd (fX3_markAlong N l_a l_b l_c l_n m_x m_y m_d m_t m_n r_n x3) (fun u_432 => fX3_find_b38 N l_a l_b l_c l_n m_x m_y m_d m_t m_n k_59 n (x3 + 1) u_432))
def fX3_find (N : Nat) (l_a : Nat → Int32) (l_b : Nat → Int32) (l_c : Nat → Int32) (l_n : Int32) (m_x : Nat → Int32) (m_y : Nat → Int32) (m_d : Nat → Int32) (m_t : Nat → Int32) (m_n : Int32) (r_s : Nat → Int32) (r_n : Nat → Int32) (r_k : Int32) : Option ((Nat → Int32) × (Nat → Int32) × Int32) := fX3_find_b2 N (fun (r_n_434 : Nat → Int32) => bd (fX1_count N l_n) (fun u_435 => if u_435 = 0 then ck 512 0 (fX3_find_b38 N l_a l_b l_c l_n m_x m_y m_d m_t m_n (fun (r_n_441 : Nat → Int32) => bd (fX3_giveNumbers N r_s r_n_441 r_k) (fun u_442 => some (u_442.1, u_442.2.1, u_442.2.2))) N 0 ((upd r_n_434 (Int32.toNatClampNeg 0) 0))) else fX3_find_b38 N l_a l_b l_c l_n m_x m_y m_d m_t m_n (fun (r_n_438 : Nat → Int32) => bd (fX3_giveNumbers N r_s r_n_438 r_k) (fun u_439 => some (u_439.1, u_439.2.1, u_439.2.2))) N 0 r_n_434)) N 0 r_n
set_option maxHeartbeats 4000000 in
set_option maxRecDepth 100000 in
theorem kX3_find {l : Launch} {G : wG} (r0 r1 r2 r3 l0 l1 l2 l3 m0 m1 m2 m3 m4 m5 : Nat) (l_a : Nat → Int32) (l_b : Nat → Int32) (l_c : Nat → Int32) (l_n : Int32) (m_x : Nat → Int32) (m_y : Nat → Int32) (m_d : Nat → Int32) (m_t : Nat → Int32) (m_v : Nat → Int32) (m_n : Int32) (r_s : Nat → Int32) (r_n : Nat → Int32) (r_w : Nat → Int32) (r_k : Int32) (N : Nat) (v : (Nat → Int32) × (Nat → Int32) × Int32) (h : fX3_find N l_a l_b l_c l_n m_x m_y m_d m_t m_n r_s r_n r_k = some v) : wCv l G yX3_find wsX3_find ({ frames := 4, cells := 0, slots := 0, locals := 105 } : Room) [.ref r0, .ref l0, .ref m0] (w_RLM G r0 r1 r2 r3 l0 l1 l2 l3 m0 m1 m2 m3 m4 m5 l_a l_b l_c l_n m_x m_y m_d m_t m_v m_n r_s r_n r_w r_k) (w_RLM G r0 r1 r2 r3 l0 l1 l2 l3 m0 m1 m2 m3 m4 m5 l_a l_b l_c l_n m_x m_y m_d m_t m_v m_n v.1 v.2.1 r_w v.2.2) 0 0 := by
  refine wCv.mk (cc := cX3_find) (maxL := 4) (by decide) rfl (Nat.le_of_ble_eq_true rfl) ?_
  intro p e s m below meth c A ls hx hb hml hr hlocks hts hown hK hA hP hD hl
  have hx : p.tables.exec = Jvm.exec := hx
  have hown : s.vm.findClass RX3 = some m.cls := hown
  have hinX3 : ∀ w ∈ wsX30, w ∈ wsX3_find := by decide +kernel
  have lk15 := hts (.fieldLink RX3 15 "Chamberwright$Rooms" "numbers" "[I") (by decide +kernel)
  have hS : va_S A s.heap s.heap [] := va_S.rf
  have hP : va_P G.1 vwCl (w_RLM G r0 r1 r2 r3 l0 l1 l2 l3 m0 m1 m2 m3 m4 m5 l_a l_b l_c l_n m_x m_y m_d m_t m_v m_n r_s r_n r_w r_k) s.heap := hP
  have hD : va_D A (w_RLM G r0 r1 r2 r3 l0 l1 l2 l3 m0 m1 m2 m3 m4 m5 l_a l_b l_c l_n m_x m_y m_d m_t m_v m_n r_s r_n r_w r_k) := hD
  have hl : lv_has ls 4 [(0, .ref r0), (1, .ref l0), (2, .ref m0)] := hl
  obtain ⟨args, hargs⟩ : ∃ z : Array Value, z = ([.ref r0, .ref l0, .ref m0] : List Value).toArray := ⟨_, rfl⟩
  rw [← hargs]
  rw [← hargs] at hts
  have w_2 : ∀ (k_22 : (Nat → Int32) → Option ((Nat → Int32) × (Nat → Int32) × Int32))  (r_s : Nat → Int32) (r_k : Int32) (_z : Unit), (∀ (yr_n : Nat → Int32) (H : Heap) (locs : List Loc) (ls : Array Slot), va_P G.1 vwCl (w_RLM G r0 r1 r2 r3 l0 l1 l2 l3 m0 m1 m2 m3 m4 m5 l_a l_b l_c l_n m_x m_y m_d m_t m_v m_n r_s yr_n r_w r_k) H → va_D A (w_RLM G r0 r1 r2 r3 l0 l1 l2 l3 m0 m1 m2 m3 m4 m5 l_a l_b l_c l_n m_x m_y m_d m_t m_v m_n r_s yr_n r_w r_k) → va_S A s.heap H locs → lv_has ls 4 [(0, .ref r0), (1, .ref l0), (2, .ref m0)] → k_22 yr_n = some v → W p l e ({ frames := 4, cells := 0, slots := 0, locals := 105 } : Room) s m args below meth c H locs 0 0 (wQv G A below args s (w_RLM G r0 r1 r2 r3 l0 l1 l2 l3 m0 m1 m2 m3 m4 m5 l_a l_b l_c l_n m_x m_y m_d m_t m_v m_n v.1 v.2.1 r_w v.2.2) 0 0) (F0 m 22 ls [])) → ∀ (n : Nat) (x3 : Int32) (r_n : Nat → Int32) (H : Heap) (locs : List Loc) (ls : Array Slot), va_P G.1 vwCl (w_RLM G r0 r1 r2 r3 l0 l1 l2 l3 m0 m1 m2 m3 m4 m5 l_a l_b l_c l_n m_x m_y m_d m_t m_v m_n r_s r_n r_w r_k) H → va_D A (w_RLM G r0 r1 r2 r3 l0 l1 l2 l3 m0 m1 m2 m3 m4 m5 l_a l_b l_c l_n m_x m_y m_d m_t m_v m_n r_s r_n r_w r_k) → va_S A s.heap H locs → lv_has ls 4 [(0, .ref r0), (1, .ref l0), (2, .ref m0), (3, .int x3)] → fX3_find_b2 N k_22 n x3 r_n = some v → W p l e ({ frames := 4, cells := 0, slots := 0, locals := 105 } : Room) s m args below meth c H locs 0 0 (wQv G A below args s (w_RLM G r0 r1 r2 r3 l0 l1 l2 l3 m0 m1 m2 m3 m4 m5 l_a l_b l_c l_n m_x m_y m_d m_t m_v m_n v.1 v.2.1 r_w v.2.2) 0 0) (F0 m 2 ls []) := by
    intro k_22 r_s r_k _z hk_22 n
    induction n with
    | zero =>
      intro x3 r_n H locs ls hP hD hS hl h
      rw [fX3_find_b2.eq_1] at h
      cases h
    | succ n ih =>
      intro x3 r_n H locs ls hP hD hS hl h
      rw [fX3_find_b2.eq_2] at h
      refine lv_iload_n hx hb dX3_find_2 rfl (lv_at hl 3 rfl) ?_
      refine lv_sipush (v := 512) hx hb dX3_find_3 (by decide) ?_
      refine lv_icmp_ge (tgt := 22) hx hb dX3_find_6 (by decide) (fun c_428 => ?_) (fun c_428 => ?_)
      · have h := ip c_428 h
        exact hk_22 _ _ _ _ hP hD hS (lv_sub hl [0, 1, 2] rfl) h
      · have h := iq c_428 h
        refine lv_aload_n hx hb dX3_find_9 rfl (lv_at hl 0 rfl) ?_
        refine va_get (D := G.1) (ci := 3) (v := .ref r2) (C := RX3) (T := TX3) (N := 4) hx hb hts hinX3 hown hK.1 hP 0 rfl rfl 1 (by decide) lk15 (fun _ h9 => h9) rfl dX3_find_10 ?_
        refine lv_iload_n hx hb dX3_find_13 rfl (lv_at hl 3 rfl) ?_
        refine lv_iconst (v := (-1)) hx hb dX3_find_14 (by decide) ?_
        refine wiast h hx hb hK hP hD hS 2 rfl dX3_find_15 (fun H locs hP hD hS h => ?_)
        have hP : va_P G.1 vwCl (w_RLM G r0 r1 r2 r3 l0 l1 l2 l3 m0 m1 m2 m3 m4 m5 l_a l_b l_c l_n m_x m_y m_d m_t m_v m_n r_s ((upd r_n (Int32.toNatClampNeg x3) (-1))) r_w r_k) H := hP
        have hD : va_D A (w_RLM G r0 r1 r2 r3 l0 l1 l2 l3 m0 m1 m2 m3 m4 m5 l_a l_b l_c l_n m_x m_y m_d m_t m_v m_n r_s ((upd r_n (Int32.toNatClampNeg x3) (-1))) r_w r_k) := hD
        refine lv_iinc (v := (x3 + 1)) (lv' := [(3, .int (x3 + 1)), (0, .ref r0), (1, .ref l0), (2, .ref m0)]) hx hb dX3_find_16 hl (k := 3) rfl rfl (by decide) rfl (fun ls hl => ?_)
        refine lv_goto (tgt := 2) hx hb dX3_find_19 (by decide) ?_
        exact ih _ _ _ _ _ hP hD hS (lv_sub hl [1, 2, 3, 0] rfl) h
  have w_38 : ∀ (k_59 : (Nat → Int32) → Option ((Nat → Int32) × (Nat → Int32) × Int32))  (r_s : Nat → Int32) (r_k : Int32) (_z : Unit), (∀ (yr_n : Nat → Int32) (H : Heap) (locs : List Loc) (ls : Array Slot), va_P G.1 vwCl (w_RLM G r0 r1 r2 r3 l0 l1 l2 l3 m0 m1 m2 m3 m4 m5 l_a l_b l_c l_n m_x m_y m_d m_t m_v m_n r_s yr_n r_w r_k) H → va_D A (w_RLM G r0 r1 r2 r3 l0 l1 l2 l3 m0 m1 m2 m3 m4 m5 l_a l_b l_c l_n m_x m_y m_d m_t m_v m_n r_s yr_n r_w r_k) → va_S A s.heap H locs → lv_has ls 4 [(0, .ref r0)] → k_59 yr_n = some v → W p l e ({ frames := 4, cells := 0, slots := 0, locals := 105 } : Room) s m args below meth c H locs 0 0 (wQv G A below args s (w_RLM G r0 r1 r2 r3 l0 l1 l2 l3 m0 m1 m2 m3 m4 m5 l_a l_b l_c l_n m_x m_y m_d m_t m_v m_n v.1 v.2.1 r_w v.2.2) 0 0) (F0 m 59 ls [])) → ∀ (n : Nat) (x3 : Int32) (r_n : Nat → Int32) (H : Heap) (locs : List Loc) (ls : Array Slot), va_P G.1 vwCl (w_RLM G r0 r1 r2 r3 l0 l1 l2 l3 m0 m1 m2 m3 m4 m5 l_a l_b l_c l_n m_x m_y m_d m_t m_v m_n r_s r_n r_w r_k) H → va_D A (w_RLM G r0 r1 r2 r3 l0 l1 l2 l3 m0 m1 m2 m3 m4 m5 l_a l_b l_c l_n m_x m_y m_d m_t m_v m_n r_s r_n r_w r_k) → va_S A s.heap H locs → lv_has ls 4 [(0, .ref r0), (1, .ref l0), (2, .ref m0), (3, .int x3)] → fX3_find_b38 N l_a l_b l_c l_n m_x m_y m_d m_t m_n k_59 n x3 r_n = some v → W p l e ({ frames := 4, cells := 0, slots := 0, locals := 105 } : Room) s m args below meth c H locs 0 0 (wQv G A below args s (w_RLM G r0 r1 r2 r3 l0 l1 l2 l3 m0 m1 m2 m3 m4 m5 l_a l_b l_c l_n m_x m_y m_d m_t m_v m_n v.1 v.2.1 r_w v.2.2) 0 0) (F0 m 38 ls []) := by
    intro k_59 r_s r_k _z hk_59 n
    induction n with
    | zero =>
      intro x3 r_n H locs ls hP hD hS hl h
      rw [fX3_find_b38.eq_1] at h
      cases h
    | succ n ih =>
      intro x3 r_n H locs ls hP hD hS hl h
      rw [fX3_find_b38.eq_2] at h
      refine lv_iload_n hx hb dX3_find_38 rfl (lv_at hl 3 rfl) ?_
      refine lv_aload_n hx hb dX3_find_39 rfl (lv_at hl 1 rfl) ?_
      obtain ⟨u_429, hc_430, h⟩ := bd_inv h
      refine wafter_i (wr := [(r0, .inr (3, [.ref r1, .ref r2, .ref r3, .int r_k])), (r1, .inl (G.2.1, 46, .inl r_s)), (r2, .inl (G.2.1, 512, .inl r_n)), (r3, .inl (G.2.1, 512, .inl r_w)), (m0, .inr (2, [.ref m1, .ref m2, .ref m3, .ref m4, .ref m5, .int m_n])), (m1, .inl (G.2.1, 36, .inl m_x)), (m2, .inl (G.2.1, 36, .inl m_y)), (m3, .inl (G.2.1, 36, .inl m_d)), (m4, .inl (G.2.1, 36, .inl m_t)), (m5, .inl (G.2.1, 36, .inl m_v))]) (w2 := (w_RLM G r0 r1 r2 r3 l0 l1 l2 l3 m0 m1 m2 m3 m4 m5 l_a l_b l_c l_n m_x m_y m_d m_t m_v m_n r_s r_n r_w r_k)) (va_runV (As := []) (rest := [.int x3]) ⟨hx, hb, hml, hown, hts⟩ (kX1_count (l := l) (G := G) l0 l1 l2 l3 l_a l_b l_c l_n  N u_429 hc_430 _) (cwV 0 hts gX3_find_X1_count rfl rfl rfl (by decide +kernel) ⟨Nat.le_of_ble_eq_true rfl, Nat.le_of_ble_eq_true rfl⟩) (wPreV hP hD hK [4, 5, 6, 7] rfl rfl (ci := 1) (qb := 4) rfl rfl rfl) rfl rfl hl.1 rfl (lv_room (Nat.le_of_ble_eq_true rfl)) dX3_find_40 ⟨Nat.zero_le _, Nat.zero_le _⟩) hP hD hS hA [4, 5, 6, 7] [0, 1, 2, 3, 8, 9, 10, 11, 12, 13] [0, 1, 2, 3, 10, 11, 12, 13, 4, 5, 6, 7, 8, 9] rfl rfl rfl (by decide) rfl rfl (fun H locs hP hD hS => ?_)
      refine lv_icmp_ge (tgt := 59) hx hb dX3_find_43 (by decide) (fun c_431 => ?_) (fun c_431 => ?_)
      · have h := ip c_431 h
        exact hk_59 _ _ _ _ hP hD hS (lv_sub hl [0] rfl) h
      · have h := iq c_431 h
        refine lv_aload_n hx hb dX3_find_46 rfl (lv_at hl 0 rfl) ?_
        refine lv_aload_n hx hb dX3_find_47 rfl (lv_at hl 1 rfl) ?_
        refine lv_aload_n hx hb dX3_find_48 rfl (lv_at hl 2 rfl) ?_
        refine lv_iload_n hx hb dX3_find_49 rfl (lv_at hl 3 rfl) ?_
        obtain ⟨u_432, hc_433, h⟩ := bd_inv h
        refine wafter_v (wr := []) (w2 := (w_RLM G r0 r1 r2 r3 l0 l1 l2 l3 m0 m1 m2 m3 m4 m5 l_a l_b l_c l_n m_x m_y m_d m_t m_v m_n r_s u_432 r_w r_k)) (va_runV (As := [.ref l0, .ref m0, .int x3]) (rest := []) ⟨hx, hb, hml, hown, hts⟩ (kX3_markAlong (l := l) (G := G) r0 r1 r2 r3 l0 l1 l2 l3 m0 m1 m2 m3 m4 m5 l_a l_b l_c l_n m_x m_y m_d m_t m_v m_n r_s r_n r_w r_k x3 N u_432 hc_433 _) (cwV 3 hts gX3_find_X3_markAlong rfl rfl rfl (by decide +kernel) ⟨Nat.le_of_ble_eq_true rfl, Nat.le_of_ble_eq_true rfl⟩) (wPreV hP hD hK [0, 1, 2, 3, 4, 5, 6, 7, 8, 9, 10, 11, 12, 13] rfl rfl (ci := 3) (qb := 0) rfl rfl rfl) rfl rfl hl.1 rfl (lv_room (Nat.le_of_ble_eq_true rfl)) dX3_find_50 ⟨Nat.zero_le _, Nat.zero_le _⟩) hP hD hS hA [0, 1, 2, 3, 4, 5, 6, 7, 8, 9, 10, 11, 12, 13] [] [0, 1, 2, 3, 4, 5, 6, 7, 8, 9, 10, 11, 12, 13] rfl rfl rfl (by decide) rfl rfl (fun H locs hP hD hS => ?_)
        refine lv_iinc (v := (x3 + 1)) (lv' := [(3, .int (x3 + 1)), (0, .ref r0), (1, .ref l0), (2, .ref m0)]) hx hb dX3_find_53 hl (k := 3) rfl rfl (by decide) rfl (fun ls hl => ?_)
        refine lv_goto (tgt := 38) hx hb dX3_find_56 (by decide) ?_
        exact ih _ _ _ _ _ hP hD hS (lv_sub hl [1, 2, 3, 0] rfl) h
  rw [fX3_find.eq_1] at h
  refine lv_iconst (v := 0) hx hb dX3_find_0 (by decide) ?_
  refine lv_istore_n (lv' := [(3, .int 0), (0, .ref r0), (1, .ref l0), (2, .ref m0)]) hx hb dX3_find_1 rfl hl (by decide) rfl (fun ls hl => ?_)
  refine w_2 _  _ _ () (fun r_n_434 H locs ls hP hD hS hl h => ?_) N _ _ _ _ _ hP hD hS (lv_sub hl [1, 2, 3, 0] rfl) h
  refine lv_aload_n hx hb dX3_find_22 rfl (lv_at hl 1 rfl) ?_
  obtain ⟨u_435, hc_436, h⟩ := bd_inv h
  refine wafter_i (wr := [(r0, .inr (3, [.ref r1, .ref r2, .ref r3, .int r_k])), (r1, .inl (G.2.1, 46, .inl r_s)), (r2, .inl (G.2.1, 512, .inl r_n_434)), (r3, .inl (G.2.1, 512, .inl r_w)), (m0, .inr (2, [.ref m1, .ref m2, .ref m3, .ref m4, .ref m5, .int m_n])), (m1, .inl (G.2.1, 36, .inl m_x)), (m2, .inl (G.2.1, 36, .inl m_y)), (m3, .inl (G.2.1, 36, .inl m_d)), (m4, .inl (G.2.1, 36, .inl m_t)), (m5, .inl (G.2.1, 36, .inl m_v))]) (w2 := (w_RLM G r0 r1 r2 r3 l0 l1 l2 l3 m0 m1 m2 m3 m4 m5 l_a l_b l_c l_n m_x m_y m_d m_t m_v m_n r_s r_n_434 r_w r_k)) (va_runV (As := []) (rest := []) ⟨hx, hb, hml, hown, hts⟩ (kX1_count (l := l) (G := G) l0 l1 l2 l3 l_a l_b l_c l_n  N u_435 hc_436 _) (cwV 0 hts gX3_find_X1_count rfl rfl rfl (by decide +kernel) ⟨Nat.le_of_ble_eq_true rfl, Nat.le_of_ble_eq_true rfl⟩) (wPreV hP hD hK [4, 5, 6, 7] rfl rfl (ci := 1) (qb := 4) rfl rfl rfl) rfl rfl hl.1 rfl (lv_room (Nat.le_of_ble_eq_true rfl)) dX3_find_23 ⟨Nat.zero_le _, Nat.zero_le _⟩) hP hD hS hA [4, 5, 6, 7] [0, 1, 2, 3, 8, 9, 10, 11, 12, 13] [0, 1, 2, 3, 10, 11, 12, 13, 4, 5, 6, 7, 8, 9] rfl rfl rfl (by decide) rfl rfl (fun H locs hP hD hS => ?_)
  refine lv_if_ne (tgt := 36) hx hb dX3_find_26 (by decide) (fun c_437 => ?_) (fun c_437 => ?_)
  · have h := iq c_437 h
    refine lv_iconst (v := 0) hx hb dX3_find_36 (by decide) ?_
    refine lv_istore_n (lv' := [(3, .int 0), (0, .ref r0), (1, .ref l0), (2, .ref m0)]) hx hb dX3_find_37 rfl hl (by decide) rfl (fun ls hl => ?_)
    refine w_38 _  _ _ () (fun r_n_438 H locs ls hP hD hS hl h => ?_) N _ _ _ _ _ hP hD hS (lv_sub hl [1, 2, 3, 0] rfl) h
    refine lv_aload_n hx hb dX3_find_59 rfl (lv_at hl 0 rfl) ?_
    obtain ⟨u_439, hc_440, h⟩ := bd_inv h
    refine wafter_v (wr := [(l0, .inr (1, [.ref l1, .ref l2, .ref l3, .int l_n])), (l1, .inl (G.2.1, 9, .inl l_a)), (l2, .inl (G.2.1, 9, .inl l_b)), (l3, .inl (G.2.1, 9, .inl l_c)), (m0, .inr (2, [.ref m1, .ref m2, .ref m3, .ref m4, .ref m5, .int m_n])), (m1, .inl (G.2.1, 36, .inl m_x)), (m2, .inl (G.2.1, 36, .inl m_y)), (m3, .inl (G.2.1, 36, .inl m_d)), (m4, .inl (G.2.1, 36, .inl m_t)), (m5, .inl (G.2.1, 36, .inl m_v))]) (w2 := (w_RLM G r0 r1 r2 r3 l0 l1 l2 l3 m0 m1 m2 m3 m4 m5 l_a l_b l_c l_n m_x m_y m_d m_t m_v m_n u_439.1 u_439.2.1 r_w u_439.2.2)) (va_runV (As := []) (rest := []) ⟨hx, hb, hml, hown, hts⟩ (kX3_giveNumbers (l := l) (G := G) r0 r1 r2 r3 r_s r_n_438 r_w r_k  N u_439 hc_440 _) (cwV 0 hts gX3_find_X3_giveNumbers rfl rfl rfl (by decide +kernel) ⟨Nat.le_of_ble_eq_true rfl, Nat.le_of_ble_eq_true rfl⟩) (wPreV hP hD hK [0, 1, 2, 3] rfl rfl (ci := 3) (qb := 0) rfl rfl rfl) rfl rfl hl.1 rfl (lv_room (Nat.le_of_ble_eq_true rfl)) dX3_find_60 ⟨Nat.zero_le _, Nat.zero_le _⟩) hP hD hS hA [0, 1, 2, 3] [4, 5, 6, 7, 8, 9, 10, 11, 12, 13] [10, 11, 12, 13, 0, 1, 2, 3, 4, 5, 6, 7, 8, 9] rfl rfl rfl (by decide) rfl rfl (fun H locs hP hD hS => ?_)
    obtain rfl := Option.some.inj h
    exact wrv hx hb hr hlocks hP hD hS (Nat.le_of_ble_eq_true rfl) (Nat.le_of_ble_eq_true rfl) dX3_find_63
  · have h := ip c_437 h
    refine lv_aload_n hx hb dX3_find_29 rfl (lv_at hl 0 rfl) ?_
    refine va_get (D := G.1) (ci := 3) (v := .ref r2) (C := RX3) (T := TX3) (N := 4) hx hb hts hinX3 hown hK.1 hP 0 rfl rfl 1 (by decide) lk15 (fun _ h9 => h9) rfl dX3_find_30 ?_
    refine lv_iconst (v := 0) hx hb dX3_find_33 (by decide) ?_
    refine lv_iconst (v := 0) hx hb dX3_find_34 (by decide) ?_
    refine wiast h hx hb hK hP hD hS 2 rfl dX3_find_35 (fun H locs hP hD hS h => ?_)
    have hP : va_P G.1 vwCl (w_RLM G r0 r1 r2 r3 l0 l1 l2 l3 m0 m1 m2 m3 m4 m5 l_a l_b l_c l_n m_x m_y m_d m_t m_v m_n r_s ((upd r_n_434 (Int32.toNatClampNeg 0) 0)) r_w r_k) H := hP
    have hD : va_D A (w_RLM G r0 r1 r2 r3 l0 l1 l2 l3 m0 m1 m2 m3 m4 m5 l_a l_b l_c l_n m_x m_y m_d m_t m_v m_n r_s ((upd r_n_434 (Int32.toNatClampNeg 0) 0)) r_w r_k) := hD
    refine lv_iconst (v := 0) hx hb dX3_find_36 (by decide) ?_
    refine lv_istore_n (lv' := [(3, .int 0), (0, .ref r0), (1, .ref l0), (2, .ref m0)]) hx hb dX3_find_37 rfl hl (by decide) rfl (fun ls hl => ?_)
    refine w_38 _  _ _ () (fun r_n_441 H locs ls hP hD hS hl h => ?_) N _ _ _ _ _ hP hD hS (lv_sub hl [1, 2, 3, 0] rfl) h
    refine lv_aload_n hx hb dX3_find_59 rfl (lv_at hl 0 rfl) ?_
    obtain ⟨u_442, hc_443, h⟩ := bd_inv h
    refine wafter_v (wr := [(l0, .inr (1, [.ref l1, .ref l2, .ref l3, .int l_n])), (l1, .inl (G.2.1, 9, .inl l_a)), (l2, .inl (G.2.1, 9, .inl l_b)), (l3, .inl (G.2.1, 9, .inl l_c)), (m0, .inr (2, [.ref m1, .ref m2, .ref m3, .ref m4, .ref m5, .int m_n])), (m1, .inl (G.2.1, 36, .inl m_x)), (m2, .inl (G.2.1, 36, .inl m_y)), (m3, .inl (G.2.1, 36, .inl m_d)), (m4, .inl (G.2.1, 36, .inl m_t)), (m5, .inl (G.2.1, 36, .inl m_v))]) (w2 := (w_RLM G r0 r1 r2 r3 l0 l1 l2 l3 m0 m1 m2 m3 m4 m5 l_a l_b l_c l_n m_x m_y m_d m_t m_v m_n u_442.1 u_442.2.1 r_w u_442.2.2)) (va_runV (As := []) (rest := []) ⟨hx, hb, hml, hown, hts⟩ (kX3_giveNumbers (l := l) (G := G) r0 r1 r2 r3 r_s r_n_441 r_w r_k  N u_442 hc_443 _) (cwV 0 hts gX3_find_X3_giveNumbers rfl rfl rfl (by decide +kernel) ⟨Nat.le_of_ble_eq_true rfl, Nat.le_of_ble_eq_true rfl⟩) (wPreV hP hD hK [0, 1, 2, 3] rfl rfl (ci := 3) (qb := 0) rfl rfl rfl) rfl rfl hl.1 rfl (lv_room (Nat.le_of_ble_eq_true rfl)) dX3_find_60 ⟨Nat.zero_le _, Nat.zero_le _⟩) hP hD hS hA [0, 1, 2, 3] [4, 5, 6, 7, 8, 9, 10, 11, 12, 13] [10, 11, 12, 13, 0, 1, 2, 3, 4, 5, 6, 7, 8, 9] rfl rfl rfl (by decide) rfl rfl (fun H locs hP hD hS => ?_)
    obtain rfl := Option.some.inj h
    exact wrv hx hb hr hlocks hP hD hS (Nat.le_of_ble_eq_true rfl) (Nat.le_of_ble_eq_true rfl) dX3_find_63
def fX3_count (N : Nat) (r_k : Int32) : Option (Int32) := some r_k
set_option maxHeartbeats 4000000 in
set_option maxRecDepth 100000 in
theorem kX3_count {l : Launch} {G : wG} (r0 r1 r2 r3 : Nat) (r_s : Nat → Int32) (r_n : Nat → Int32) (r_w : Nat → Int32) (r_k : Int32) (N : Nat) (v : Int32) (h : fX3_count N r_k = some v) : wCi l G yX3_count wsX3_count ({ frames := 0, cells := 0, slots := 0, locals := 0 } : Room) [.ref r0] (w_R G r0 r1 r2 r3 r_s r_n r_w r_k) (w_R G r0 r1 r2 r3 r_s r_n r_w r_k) 0 0 v := by
  refine wCi.mk (cc := cX3_count) (maxL := 1) (ty := .int) (by decide) rfl (Nat.le_of_ble_eq_true rfl) ?_
  intro p e s m below meth c A ls hx hb hml hr hlocks hts hown hK hA hP hD hl
  have hx : p.tables.exec = Jvm.exec := hx
  have hown : s.vm.findClass RX3 = some m.cls := hown
  have hinX3 : ∀ w ∈ wsX30, w ∈ wsX3_count := by decide +kernel
  have lk21 := hts (.fieldLink RX3 21 "Chamberwright$Rooms" "count" "I") (by decide +kernel)
  have hS : va_S A s.heap s.heap [] := va_S.rf
  have hP : va_P G.1 vwCl (w_R G r0 r1 r2 r3 r_s r_n r_w r_k) s.heap := hP
  have hD : va_D A (w_R G r0 r1 r2 r3 r_s r_n r_w r_k) := hD
  have hl : lv_has ls 1 [(0, .ref r0)] := hl
  obtain ⟨args, hargs⟩ : ∃ z : Array Value, z = ([.ref r0] : List Value).toArray := ⟨_, rfl⟩
  rw [← hargs]
  rw [← hargs] at hts
  rw [fX3_count.eq_1] at h
  refine lv_aload_n hx hb dX3_count_0 rfl (lv_at hl 0 rfl) ?_
  refine va_get (D := G.1) (ci := 3) (v := .int r_k) (C := RX3) (T := TX3) (N := 4) hx hb hts hinX3 hown hK.1 hP 0 rfl rfl 3 (by decide) lk21 (fun _ h9 => h9) rfl dX3_count_1 ?_
  obtain rfl := Option.some.inj h
  exact wri hx hb hr hlocks hP hD hS (Nat.le_of_ble_eq_true rfl) (Nat.le_of_ble_eq_true rfl) rfl dX3_count_4
def fX3_isBounded_b2 (N : Nat) (l_a : Nat → Int32) (l_b : Nat → Int32) (l_n : Int32) (r_s : Nat → Int32) (x2 : Int32) (k_69 : Option (Int32)) : Nat → Int32 → Option (Int32)
  | 0, _ => none
  | n + 1, x3 => bd (fX1_count N l_n) (fun u_444 => if u_444 ≤ x3 then k_69 else bd (fX1_b N l_b x3) (fun u_447 => bd (fX1_a N l_a x3) (fun u_449 => rd r_s 46 x2 (fun v_451 => bd (fX1_staysIn N l_a l_b l_n v_451 u_447 (-u_449)) (fun u_452 => if u_452 = 0 then rd r_s 46 x2 (fun v_455 => bd (fX1_staysIn N l_a l_b l_n v_455 (-u_447) (-(-u_449))) (fun u_456 => if u_456 = 0 then fX3_isBounded_b2 N l_a l_b l_n r_s x2 k_69 n (x3 + 1) else zo 0 (some 0))) else zo 0 (some 0))))))
def fX3_isBounded (N : Nat) (l_a : Nat → Int32) (l_b : Nat → Int32) (l_n : Int32) (r_s : Nat → Int32) (x2 : Int32) : Option (Int32) := fX3_isBounded_b2 N l_a l_b l_n r_s x2 (bd (fX1_count N l_n) (fun u_459 => if u_459 ≤ 0 then zo 0 (some 0) else zo 1 (some 1))) N 0
set_option maxHeartbeats 4000000 in
set_option maxRecDepth 100000 in
theorem kX3_isBounded {l : Launch} {G : wG} (r0 r1 r2 r3 l0 l1 l2 l3 : Nat) (l_a : Nat → Int32) (l_b : Nat → Int32) (l_c : Nat → Int32) (l_n : Int32) (r_s : Nat → Int32) (r_n : Nat → Int32) (r_w : Nat → Int32) (r_k : Int32) (x2 : Int32) (N : Nat) (v : Int32) (h : fX3_isBounded N l_a l_b l_n r_s x2 = some v) : wCi l G yX3_isBounded wsX3_isBounded ({ frames := 3, cells := 0, slots := 0, locals := 66 } : Room) [.ref r0, .ref l0, .int x2] (w_RL G r0 r1 r2 r3 l0 l1 l2 l3 l_a l_b l_c l_n r_s r_n r_w r_k) (w_RL G r0 r1 r2 r3 l0 l1 l2 l3 l_a l_b l_c l_n r_s r_n r_w r_k) 0 0 v := by
  refine wCi.mk (cc := cX3_isBounded) (maxL := 6) (ty := .boolean) (by decide) rfl (Nat.le_of_ble_eq_true rfl) ?_
  intro p e s m below meth c A ls hx hb hml hr hlocks hts hown hK hA hP hD hl
  have hx : p.tables.exec = Jvm.exec := hx
  have hown : s.vm.findClass RX3 = some m.cls := hown
  have hinX3 : ∀ w ∈ wsX30, w ∈ wsX3_isBounded := by decide +kernel
  have lk9 := hts (.fieldLink RX3 9 "Chamberwright$Rooms" "sets" "[I") (by decide +kernel)
  have hS : va_S A s.heap s.heap [] := va_S.rf
  have hP : va_P G.1 vwCl (w_RL G r0 r1 r2 r3 l0 l1 l2 l3 l_a l_b l_c l_n r_s r_n r_w r_k) s.heap := hP
  have hD : va_D A (w_RL G r0 r1 r2 r3 l0 l1 l2 l3 l_a l_b l_c l_n r_s r_n r_w r_k) := hD
  have hl : lv_has ls 6 [(0, .ref r0), (1, .ref l0), (2, .int x2)] := hl
  obtain ⟨args, hargs⟩ : ∃ z : Array Value, z = ([.ref r0, .ref l0, .int x2] : List Value).toArray := ⟨_, rfl⟩
  rw [← hargs]
  rw [← hargs] at hts
  have w_2 : ∀ (k_69 : Option (Int32)) (x2 : Int32)  (_z : Unit), (∀  (H : Heap) (locs : List Loc) (ls : Array Slot), va_P G.1 vwCl (w_RL G r0 r1 r2 r3 l0 l1 l2 l3 l_a l_b l_c l_n r_s r_n r_w r_k) H → va_D A (w_RL G r0 r1 r2 r3 l0 l1 l2 l3 l_a l_b l_c l_n r_s r_n r_w r_k) → va_S A s.heap H locs → lv_has ls 6 [(1, .ref l0)] → k_69 = some v → W p l e ({ frames := 3, cells := 0, slots := 0, locals := 66 } : Room) s m args below meth c H locs 0 0 (wQi G A below args s (w_RL G r0 r1 r2 r3 l0 l1 l2 l3 l_a l_b l_c l_n r_s r_n r_w r_k) 0 0 v) (F0 m 69 ls [])) → ∀ (n : Nat) (x3 : Int32)  (H : Heap) (locs : List Loc) (ls : Array Slot), va_P G.1 vwCl (w_RL G r0 r1 r2 r3 l0 l1 l2 l3 l_a l_b l_c l_n r_s r_n r_w r_k) H → va_D A (w_RL G r0 r1 r2 r3 l0 l1 l2 l3 l_a l_b l_c l_n r_s r_n r_w r_k) → va_S A s.heap H locs → lv_has ls 6 [(0, .ref r0), (1, .ref l0), (2, .int x2), (3, .int x3)] → fX3_isBounded_b2 N l_a l_b l_n r_s x2 k_69 n x3 = some v → W p l e ({ frames := 3, cells := 0, slots := 0, locals := 66 } : Room) s m args below meth c H locs 0 0 (wQi G A below args s (w_RL G r0 r1 r2 r3 l0 l1 l2 l3 l_a l_b l_c l_n r_s r_n r_w r_k) 0 0 v) (F0 m 2 ls []) := by
    intro k_69 x2 _z hk_69 n
    induction n with
    | zero =>
      intro x3 H locs ls hP hD hS hl h
      rw [fX3_isBounded_b2.eq_1] at h
      cases h
    | succ n ih =>
      intro x3 H locs ls hP hD hS hl h
      rw [fX3_isBounded_b2.eq_2] at h
      refine lv_iload_n hx hb dX3_isBounded_2 rfl (lv_at hl 3 rfl) ?_
      refine lv_aload_n hx hb dX3_isBounded_3 rfl (lv_at hl 1 rfl) ?_
      obtain ⟨u_444, hc_445, h⟩ := bd_inv h
      refine wafter_i (wr := [(r0, .inr (3, [.ref r1, .ref r2, .ref r3, .int r_k])), (r1, .inl (G.2.1, 46, .inl r_s)), (r2, .inl (G.2.1, 512, .inl r_n)), (r3, .inl (G.2.1, 512, .inl r_w))]) (w2 := (w_RL G r0 r1 r2 r3 l0 l1 l2 l3 l_a l_b l_c l_n r_s r_n r_w r_k)) (va_runV (As := []) (rest := [.int x3]) ⟨hx, hb, hml, hown, hts⟩ (kX1_count (l := l) (G := G) l0 l1 l2 l3 l_a l_b l_c l_n  N u_444 hc_445 _) (cwV 0 hts gX3_isBounded_X1_count rfl rfl rfl (by decide +kernel) ⟨Nat.le_of_ble_eq_true rfl, Nat.le_of_ble_eq_true rfl⟩) (wPreV hP hD hK [4, 5, 6, 7] rfl rfl (ci := 1) (qb := 4) rfl rfl rfl) rfl rfl hl.1 rfl (lv_room (Nat.le_of_ble_eq_true rfl)) dX3_isBounded_4 ⟨Nat.zero_le _, Nat.zero_le _⟩) hP hD hS hA [4, 5, 6, 7] [0, 1, 2, 3] [0, 1, 2, 3, 4, 5, 6, 7] rfl rfl rfl (by decide) rfl rfl (fun H locs hP hD hS => ?_)
      refine lv_icmp_ge (tgt := 69) hx hb dX3_isBounded_7 (by decide) (fun c_446 => ?_) (fun c_446 => ?_)
      · have h := ip c_446 h
        exact hk_69  _ _ _ hP hD hS (lv_sub hl [1] rfl) h
      · have h := iq c_446 h
        refine lv_aload_n hx hb dX3_isBounded_10 rfl (lv_at hl 1 rfl) ?_
        refine lv_iload_n hx hb dX3_isBounded_11 rfl (lv_at hl 3 rfl) ?_
        obtain ⟨u_447, hc_448, h⟩ := bd_inv h
        refine wafter_i (wr := [(r0, .inr (3, [.ref r1, .ref r2, .ref r3, .int r_k])), (r1, .inl (G.2.1, 46, .inl r_s)), (r2, .inl (G.2.1, 512, .inl r_n)), (r3, .inl (G.2.1, 512, .inl r_w))]) (w2 := (w_RL G r0 r1 r2 r3 l0 l1 l2 l3 l_a l_b l_c l_n r_s r_n r_w r_k)) (va_runV (As := [.int x3]) (rest := []) ⟨hx, hb, hml, hown, hts⟩ (kX1_b (l := l) (G := G) l0 l1 l2 l3 l_a l_b l_c l_n x3 N u_447 hc_448 _) (cwV 1 hts gX3_isBounded_X1_b rfl rfl rfl (by decide +kernel) ⟨Nat.le_of_ble_eq_true rfl, Nat.le_of_ble_eq_true rfl⟩) (wPreV hP hD hK [4, 5, 6, 7] rfl rfl (ci := 1) (qb := 4) rfl rfl rfl) rfl rfl hl.1 rfl (lv_room (Nat.le_of_ble_eq_true rfl)) dX3_isBounded_12 ⟨Nat.zero_le _, Nat.zero_le _⟩) hP hD hS hA [4, 5, 6, 7] [0, 1, 2, 3] [0, 1, 2, 3, 4, 5, 6, 7] rfl rfl rfl (by decide) rfl rfl (fun H locs hP hD hS => ?_)
        refine lv_istore (lv' := [(4, .int u_447), (0, .ref r0), (1, .ref l0), (2, .int x2), (3, .int x3)]) hx hb dX3_isBounded_15 hl (by decide) rfl (fun ls hl => ?_)
        refine lv_aload_n hx hb dX3_isBounded_17 rfl (lv_at hl 2 rfl) ?_
        refine lv_iload_n hx hb dX3_isBounded_18 rfl (lv_at hl 4 rfl) ?_
        obtain ⟨u_449, hc_450, h⟩ := bd_inv h
        refine wafter_i (wr := [(r0, .inr (3, [.ref r1, .ref r2, .ref r3, .int r_k])), (r1, .inl (G.2.1, 46, .inl r_s)), (r2, .inl (G.2.1, 512, .inl r_n)), (r3, .inl (G.2.1, 512, .inl r_w))]) (w2 := (w_RL G r0 r1 r2 r3 l0 l1 l2 l3 l_a l_b l_c l_n r_s r_n r_w r_k)) (va_runV (As := [.int x3]) (rest := []) ⟨hx, hb, hml, hown, hts⟩ (kX1_a (l := l) (G := G) l0 l1 l2 l3 l_a l_b l_c l_n x3 N u_449 hc_450 _) (cwV 1 hts gX3_isBounded_X1_a rfl rfl rfl (by decide +kernel) ⟨Nat.le_of_ble_eq_true rfl, Nat.le_of_ble_eq_true rfl⟩) (wPreV hP hD hK [4, 5, 6, 7] rfl rfl (ci := 1) (qb := 4) rfl rfl rfl) rfl rfl hl.1 rfl (lv_room (Nat.le_of_ble_eq_true rfl)) dX3_isBounded_19 ⟨Nat.zero_le _, Nat.zero_le _⟩) hP hD hS hA [4, 5, 6, 7] [0, 1, 2, 3] [0, 1, 2, 3, 4, 5, 6, 7] rfl rfl rfl (by decide) rfl rfl (fun H locs hP hD hS => ?_)
        refine lv_ineg hx hb dX3_isBounded_22 ?_
        refine lv_istore (lv' := [(5, .int (-u_449)), (4, .int u_447), (0, .ref r0), (1, .ref l0), (2, .int x2), (3, .int x3)]) hx hb dX3_isBounded_23 hl (by decide) rfl (fun ls hl => ?_)
        refine lv_aload_n hx hb dX3_isBounded_25 rfl (lv_at hl 3 rfl) ?_
        refine lv_aload_n hx hb dX3_isBounded_26 rfl (lv_at hl 2 rfl) ?_
        refine va_get (D := G.1) (ci := 3) (v := .ref r1) (C := RX3) (T := TX3) (N := 4) hx hb hts hinX3 hown hK.1 hP 0 rfl rfl 0 (by decide) lk9 (fun _ h9 => h9) rfl dX3_isBounded_27 ?_
        refine lv_iload_n hx hb dX3_isBounded_30 rfl (lv_at hl 4 rfl) ?_
        refine wiald h hx hb hK hP 1 rfl dX3_isBounded_31 (fun v_451 h => ?_)
        refine lv_iload hx hb dX3_isBounded_32 (lv_at hl 1 rfl) ?_
        refine lv_iload hx hb dX3_isBounded_34 (lv_at hl 0 rfl) ?_
        obtain ⟨u_452, hc_453, h⟩ := bd_inv h
        refine wafter_i (wr := [(r0, .inr (3, [.ref r1, .ref r2, .ref r3, .int r_k])), (r1, .inl (G.2.1, 46, .inl r_s)), (r2, .inl (G.2.1, 512, .inl r_n)), (r3, .inl (G.2.1, 512, .inl r_w))]) (w2 := (w_RL G r0 r1 r2 r3 l0 l1 l2 l3 l_a l_b l_c l_n r_s r_n r_w r_k)) (va_runV (As := [.int v_451, .int u_447, .int (-u_449)]) (rest := []) ⟨hx, hb, hml, hown, hts⟩ (kX1_staysIn (l := l) (G := G) l0 l1 l2 l3 l_a l_b l_c l_n v_451 u_447 (-u_449) N u_452 hc_453 _) (cwV 3 hts gX3_isBounded_X1_staysIn rfl rfl rfl (by decide +kernel) ⟨Nat.le_of_ble_eq_true rfl, Nat.le_of_ble_eq_true rfl⟩) (wPreV hP hD hK [4, 5, 6, 7] rfl rfl (ci := 1) (qb := 4) rfl rfl rfl) rfl rfl hl.1 rfl (lv_room (Nat.le_of_ble_eq_true rfl)) dX3_isBounded_36 ⟨Nat.zero_le _, Nat.zero_le _⟩) hP hD hS hA [4, 5, 6, 7] [0, 1, 2, 3] [0, 1, 2, 3, 4, 5, 6, 7] rfl rfl rfl (by decide) rfl rfl (fun H locs hP hD hS => ?_)
        refine lv_if_ne (tgt := 61) hx hb dX3_isBounded_39 (by decide) (fun c_454 => ?_) (fun c_454 => ?_)
        · have h := iq c_454 h
          refine lv_iconst (v := 0) hx hb dX3_isBounded_61 (by decide) ?_
          obtain ⟨hz, h⟩ := zo_inv h
          obtain rfl := Option.some.inj h
          exact wrz hx hb hr hlocks hP hD hS (Nat.le_of_ble_eq_true rfl) (Nat.le_of_ble_eq_true rfl) hz rfl dX3_isBounded_62
        · have h := ip c_454 h
          refine lv_aload_n hx hb dX3_isBounded_42 rfl (lv_at hl 3 rfl) ?_
          refine lv_aload_n hx hb dX3_isBounded_43 rfl (lv_at hl 2 rfl) ?_
          refine va_get (D := G.1) (ci := 3) (v := .ref r1) (C := RX3) (T := TX3) (N := 4) hx hb hts hinX3 hown hK.1 hP 0 rfl rfl 0 (by decide) lk9 (fun _ h9 => h9) rfl dX3_isBounded_44 ?_
          refine lv_iload_n hx hb dX3_isBounded_47 rfl (lv_at hl 4 rfl) ?_
          refine wiald h hx hb hK hP 1 rfl dX3_isBounded_48 (fun v_455 h => ?_)
          refine lv_iload hx hb dX3_isBounded_49 (lv_at hl 1 rfl) ?_
          refine lv_ineg hx hb dX3_isBounded_51 ?_
          refine lv_iload hx hb dX3_isBounded_52 (lv_at hl 0 rfl) ?_
          refine lv_ineg hx hb dX3_isBounded_54 ?_
          obtain ⟨u_456, hc_457, h⟩ := bd_inv h
          refine wafter_i (wr := [(r0, .inr (3, [.ref r1, .ref r2, .ref r3, .int r_k])), (r1, .inl (G.2.1, 46, .inl r_s)), (r2, .inl (G.2.1, 512, .inl r_n)), (r3, .inl (G.2.1, 512, .inl r_w))]) (w2 := (w_RL G r0 r1 r2 r3 l0 l1 l2 l3 l_a l_b l_c l_n r_s r_n r_w r_k)) (va_runV (As := [.int v_455, .int (-u_447), .int (-(-u_449))]) (rest := []) ⟨hx, hb, hml, hown, hts⟩ (kX1_staysIn (l := l) (G := G) l0 l1 l2 l3 l_a l_b l_c l_n v_455 (-u_447) (-(-u_449)) N u_456 hc_457 _) (cwV 3 hts gX3_isBounded_X1_staysIn rfl rfl rfl (by decide +kernel) ⟨Nat.le_of_ble_eq_true rfl, Nat.le_of_ble_eq_true rfl⟩) (wPreV hP hD hK [4, 5, 6, 7] rfl rfl (ci := 1) (qb := 4) rfl rfl rfl) rfl rfl hl.1 rfl (lv_room (Nat.le_of_ble_eq_true rfl)) dX3_isBounded_55 ⟨Nat.zero_le _, Nat.zero_le _⟩) hP hD hS hA [4, 5, 6, 7] [0, 1, 2, 3] [0, 1, 2, 3, 4, 5, 6, 7] rfl rfl rfl (by decide) rfl rfl (fun H locs hP hD hS => ?_)
          refine lv_if_eq (tgt := 63) hx hb dX3_isBounded_58 (by decide) (fun c_458 => ?_) (fun c_458 => ?_)
          · have h := ip c_458 h
            refine lv_iinc (v := (x3 + 1)) (lv' := [(3, .int (x3 + 1)), (5, .int (-u_449)), (4, .int u_447), (0, .ref r0), (1, .ref l0), (2, .int x2)]) hx hb dX3_isBounded_63 hl (k := 5) rfl rfl (by decide) rfl (fun ls hl => ?_)
            refine lv_goto (tgt := 2) hx hb dX3_isBounded_66 (by decide) ?_
            exact ih _ _ _ _ hP hD hS (lv_sub hl [3, 4, 5, 0] rfl) h
          · have h := iq c_458 h
            refine lv_iconst (v := 0) hx hb dX3_isBounded_61 (by decide) ?_
            obtain ⟨hz, h⟩ := zo_inv h
            obtain rfl := Option.some.inj h
            exact wrz hx hb hr hlocks hP hD hS (Nat.le_of_ble_eq_true rfl) (Nat.le_of_ble_eq_true rfl) hz rfl dX3_isBounded_62
  rw [fX3_isBounded.eq_1] at h
  refine lv_iconst (v := 0) hx hb dX3_isBounded_0 (by decide) ?_
  refine lv_istore_n (lv' := [(3, .int 0), (0, .ref r0), (1, .ref l0), (2, .int x2)]) hx hb dX3_isBounded_1 rfl hl (by decide) rfl (fun ls hl => ?_)
  refine w_2 _ _  () (fun  H locs ls hP hD hS hl h => ?_) N _  _ _ _ hP hD hS (lv_sub hl [1, 2, 3, 0] rfl) h
  refine lv_aload_n hx hb dX3_isBounded_69 rfl (lv_at hl 0 rfl) ?_
  obtain ⟨u_459, hc_460, h⟩ := bd_inv h
  refine wafter_i (wr := [(r0, .inr (3, [.ref r1, .ref r2, .ref r3, .int r_k])), (r1, .inl (G.2.1, 46, .inl r_s)), (r2, .inl (G.2.1, 512, .inl r_n)), (r3, .inl (G.2.1, 512, .inl r_w))]) (w2 := (w_RL G r0 r1 r2 r3 l0 l1 l2 l3 l_a l_b l_c l_n r_s r_n r_w r_k)) (va_runV (As := []) (rest := []) ⟨hx, hb, hml, hown, hts⟩ (kX1_count (l := l) (G := G) l0 l1 l2 l3 l_a l_b l_c l_n  N u_459 hc_460 _) (cwV 0 hts gX3_isBounded_X1_count rfl rfl rfl (by decide +kernel) ⟨Nat.le_of_ble_eq_true rfl, Nat.le_of_ble_eq_true rfl⟩) (wPreV hP hD hK [4, 5, 6, 7] rfl rfl (ci := 1) (qb := 4) rfl rfl rfl) rfl rfl hl.1 rfl (lv_room (Nat.le_of_ble_eq_true rfl)) dX3_isBounded_70 ⟨Nat.zero_le _, Nat.zero_le _⟩) hP hD hS hA [4, 5, 6, 7] [0, 1, 2, 3] [0, 1, 2, 3, 4, 5, 6, 7] rfl rfl rfl (by decide) rfl rfl (fun H locs hP hD hS => ?_)
  refine lv_if_le (tgt := 80) hx hb dX3_isBounded_73 (by decide) (fun c_461 => ?_) (fun c_461 => ?_)
  · have h := ip c_461 h
    refine lv_iconst (v := 0) hx hb dX3_isBounded_80 (by decide) ?_
    obtain ⟨hz, h⟩ := zo_inv h
    obtain rfl := Option.some.inj h
    exact wrz hx hb hr hlocks hP hD hS (Nat.le_of_ble_eq_true rfl) (Nat.le_of_ble_eq_true rfl) hz rfl dX3_isBounded_81
  · have h := iq c_461 h
    refine lv_iconst (v := 1) hx hb dX3_isBounded_76 (by decide) ?_
    refine lv_goto (tgt := 81) hx hb dX3_isBounded_77 (by decide) ?_
    obtain ⟨hz, h⟩ := zo_inv h
    obtain rfl := Option.some.inj h
    exact wrz hx hb hr hlocks hP hD hS (Nat.le_of_ble_eq_true rfl) (Nat.le_of_ble_eq_true rfl) hz rfl dX3_isBounded_81
def fX3_set (N : Nat) (r_s : Nat → Int32) (x1 : Int32) : Option (Int32) := rd r_s 46 x1 (fun v_462 => some v_462)
set_option maxHeartbeats 4000000 in
set_option maxRecDepth 100000 in
theorem kX3_set {l : Launch} {G : wG} (r0 r1 r2 r3 : Nat) (r_s : Nat → Int32) (r_n : Nat → Int32) (r_w : Nat → Int32) (r_k : Int32) (x1 : Int32) (N : Nat) (v : Int32) (h : fX3_set N r_s x1 = some v) : wCi l G yX3_set wsX3_set ({ frames := 0, cells := 0, slots := 0, locals := 0 } : Room) [.ref r0, .int x1] (w_R G r0 r1 r2 r3 r_s r_n r_w r_k) (w_R G r0 r1 r2 r3 r_s r_n r_w r_k) 0 0 v := by
  refine wCi.mk (cc := cX3_set) (maxL := 2) (ty := .int) (by decide) rfl (Nat.le_of_ble_eq_true rfl) ?_
  intro p e s m below meth c A ls hx hb hml hr hlocks hts hown hK hA hP hD hl
  have hx : p.tables.exec = Jvm.exec := hx
  have hown : s.vm.findClass RX3 = some m.cls := hown
  have hinX3 : ∀ w ∈ wsX30, w ∈ wsX3_set := by decide +kernel
  have lk9 := hts (.fieldLink RX3 9 "Chamberwright$Rooms" "sets" "[I") (by decide +kernel)
  have hS : va_S A s.heap s.heap [] := va_S.rf
  have hP : va_P G.1 vwCl (w_R G r0 r1 r2 r3 r_s r_n r_w r_k) s.heap := hP
  have hD : va_D A (w_R G r0 r1 r2 r3 r_s r_n r_w r_k) := hD
  have hl : lv_has ls 2 [(0, .ref r0), (1, .int x1)] := hl
  obtain ⟨args, hargs⟩ : ∃ z : Array Value, z = ([.ref r0, .int x1] : List Value).toArray := ⟨_, rfl⟩
  rw [← hargs]
  rw [← hargs] at hts
  rw [fX3_set.eq_1] at h
  refine lv_aload_n hx hb dX3_set_0 rfl (lv_at hl 0 rfl) ?_
  refine va_get (D := G.1) (ci := 3) (v := .ref r1) (C := RX3) (T := TX3) (N := 4) hx hb hts hinX3 hown hK.1 hP 0 rfl rfl 0 (by decide) lk9 (fun _ h9 => h9) rfl dX3_set_1 ?_
  refine lv_iload_n hx hb dX3_set_4 rfl (lv_at hl 1 rfl) ?_
  refine wiald h hx hb hK hP 1 rfl dX3_set_5 (fun v_462 h => ?_)
  obtain rfl := Option.some.inj h
  exact wri hx hb hr hlocks hP hD hS (Nat.le_of_ble_eq_true rfl) (Nat.le_of_ble_eq_true rfl) rfl dX3_set_6
def fX3_walls_b4 (N : Nat) (r_s : Nat → Int32) (r_n : Nat → Int32) (x1 : Int32) : Nat → Int32 → Int32 → Option (Int32)
  | 0, _, _ => none
  | n + 1, x2, x3 => if 9 ≤ x3 then some x2 else rd r_s 46 x1 (fun v_464 => bd (fX4_bit N x3) (fun u_465 => rd r_n 512 (v_464 ^^^ u_465) (fun v_467 => if v_467 = (-1) then fX3_walls_b4 N r_s r_n x1 n x2 (x3 + 1) else bd (fX4_bit N x3) (fun u_469 => fX3_walls_b4 N r_s r_n x1 n (x2 ||| u_469) (x3 + 1)))))
def fX3_walls (N : Nat) (r_s : Nat → Int32) (r_n : Nat → Int32) (x1 : Int32) : Option (Int32) := fX3_walls_b4 N r_s r_n x1 N 0 0
set_option maxHeartbeats 4000000 in
set_option maxRecDepth 100000 in
theorem kX3_walls {l : Launch} {G : wG} (r0 r1 r2 r3 : Nat) (r_s : Nat → Int32) (r_n : Nat → Int32) (r_w : Nat → Int32) (r_k : Int32) (x1 : Int32) (N : Nat) (v : Int32) (h : fX3_walls N r_s r_n x1 = some v) : wCi l G yX3_walls wsX3_walls ({ frames := 1, cells := 0, slots := 0, locals := 20 } : Room) [.ref r0, .int x1] (w_R G r0 r1 r2 r3 r_s r_n r_w r_k) (w_R G r0 r1 r2 r3 r_s r_n r_w r_k) 0 0 v := by
  refine wCi.mk (cc := cX3_walls) (maxL := 4) (ty := .int) (by decide) rfl (Nat.le_of_ble_eq_true rfl) ?_
  intro p e s m below meth c A ls hx hb hml hr hlocks hts hown hK hA hP hD hl
  have hx : p.tables.exec = Jvm.exec := hx
  have hown : s.vm.findClass RX3 = some m.cls := hown
  have hinX3 : ∀ w ∈ wsX30, w ∈ wsX3_walls := by decide +kernel
  have lk15 := hts (.fieldLink RX3 15 "Chamberwright$Rooms" "numbers" "[I") (by decide +kernel)
  have lk9 := hts (.fieldLink RX3 9 "Chamberwright$Rooms" "sets" "[I") (by decide +kernel)
  have hS : va_S A s.heap s.heap [] := va_S.rf
  have hP : va_P G.1 vwCl (w_R G r0 r1 r2 r3 r_s r_n r_w r_k) s.heap := hP
  have hD : va_D A (w_R G r0 r1 r2 r3 r_s r_n r_w r_k) := hD
  have hl : lv_has ls 4 [(0, .ref r0), (1, .int x1)] := hl
  obtain ⟨args, hargs⟩ : ∃ z : Array Value, z = ([.ref r0, .int x1] : List Value).toArray := ⟨_, rfl⟩
  rw [← hargs]
  rw [← hargs] at hts
  have w_4 : ∀ (x1 : Int32)  (_z : Unit), ∀ (n : Nat) (x2 : Int32) (x3 : Int32)  (H : Heap) (locs : List Loc) (ls : Array Slot), va_P G.1 vwCl (w_R G r0 r1 r2 r3 r_s r_n r_w r_k) H → va_D A (w_R G r0 r1 r2 r3 r_s r_n r_w r_k) → va_S A s.heap H locs → lv_has ls 4 [(0, .ref r0), (1, .int x1), (2, .int x2), (3, .int x3)] → fX3_walls_b4 N r_s r_n x1 n x2 x3 = some v → W p l e ({ frames := 1, cells := 0, slots := 0, locals := 20 } : Room) s m args below meth c H locs 0 0 (wQi G A below args s (w_R G r0 r1 r2 r3 r_s r_n r_w r_k) 0 0 v) (F0 m 4 ls []) := by
    intro x1 _z n
    induction n with
    | zero =>
      intro x2 x3 H locs ls hP hD hS hl h
      rw [fX3_walls_b4.eq_1] at h
      cases h
    | succ n ih =>
      intro x2 x3 H locs ls hP hD hS hl h
      rw [fX3_walls_b4.eq_2] at h
      refine lv_iload_n hx hb dX3_walls_4 rfl (lv_at hl 3 rfl) ?_
      refine lv_bipush (v := 9) hx hb dX3_walls_5 (by decide) ?_
      refine lv_icmp_ge (tgt := 43) hx hb dX3_walls_7 (by decide) (fun c_463 => ?_) (fun c_463 => ?_)
      · have h := ip c_463 h
        refine lv_iload_n hx hb dX3_walls_43 rfl (lv_at hl 2 rfl) ?_
        obtain rfl := Option.some.inj h
        exact wri hx hb hr hlocks hP hD hS (Nat.le_of_ble_eq_true rfl) (Nat.le_of_ble_eq_true rfl) rfl dX3_walls_44
      · have h := iq c_463 h
        refine lv_aload_n hx hb dX3_walls_10 rfl (lv_at hl 0 rfl) ?_
        refine va_get (D := G.1) (ci := 3) (v := .ref r2) (C := RX3) (T := TX3) (N := 4) hx hb hts hinX3 hown hK.1 hP 0 rfl rfl 1 (by decide) lk15 (fun _ h9 => h9) rfl dX3_walls_11 ?_
        refine lv_aload_n hx hb dX3_walls_14 rfl (lv_at hl 0 rfl) ?_
        refine va_get (D := G.1) (ci := 3) (v := .ref r1) (C := RX3) (T := TX3) (N := 4) hx hb hts hinX3 hown hK.1 hP 0 rfl rfl 0 (by decide) lk9 (fun _ h9 => h9) rfl dX3_walls_15 ?_
        refine lv_iload_n hx hb dX3_walls_18 rfl (lv_at hl 1 rfl) ?_
        refine wiald h hx hb hK hP 1 rfl dX3_walls_19 (fun v_464 h => ?_)
        refine lv_iload_n hx hb dX3_walls_20 rfl (lv_at hl 3 rfl) ?_
        obtain ⟨u_465, hc_466, h⟩ := bd_inv h
        refine wafter_i (wr := (w_R G r0 r1 r2 r3 r_s r_n r_w r_k)) (w2 := (w_R G r0 r1 r2 r3 r_s r_n r_w r_k)) (va_runSN (As := [.int x3]) (rest := [.int v_464, .ref r2]) ⟨hx, hb, hml, hown, hts⟩ (kX4_bit (l := l) (G := G)   x3 N u_465 hc_466 _) ⟨va_cnB 1 hts gX3_walls_X4_bit_n82 rfl rfl rfl (hK.2 (.methodLinkNest RX3 82 yX4_bit RX4) (by simp [wNest])) (hts (.initialized RX4) (by decide +kernel)) (by decide +kernel) ⟨Nat.le_of_ble_eq_true rfl, Nat.le_of_ble_eq_true rfl⟩, hts (.static yX4_bit) (by decide +kernel), trivial⟩ (wPreS hP hD hK [] rfl rfl) rfl rfl hl.1 rfl (lv_room (Nat.le_of_ble_eq_true rfl)) dX3_walls_21 ⟨Nat.zero_le _, Nat.zero_le _⟩) hP hD hS hA [] [0, 1, 2, 3] [0, 1, 2, 3] rfl rfl rfl (by decide) rfl rfl (fun H locs hP hD hS => ?_)
        refine lv_ixor hx hb dX3_walls_24 ?_
        refine wiald h hx hb hK hP 2 rfl dX3_walls_25 (fun v_467 h => ?_)
        refine lv_iconst (v := (-1)) hx hb dX3_walls_26 (by decide) ?_
        refine lv_icmp_eq (tgt := 37) hx hb dX3_walls_27 (by decide) (fun c_468 => ?_) (fun c_468 => ?_)
        · have h := ip c_468 h
          refine lv_iinc (v := (x3 + 1)) (lv' := [(3, .int (x3 + 1)), (0, .ref r0), (1, .int x1), (2, .int x2)]) hx hb dX3_walls_37 hl (k := 3) rfl rfl (by decide) rfl (fun ls hl => ?_)
          refine lv_goto (tgt := 4) hx hb dX3_walls_40 (by decide) ?_
          exact ih _ _ _ _ _ hP hD hS (lv_sub hl [1, 2, 3, 0] rfl) h
        · have h := iq c_468 h
          refine lv_iload_n hx hb dX3_walls_30 rfl (lv_at hl 2 rfl) ?_
          refine lv_iload_n hx hb dX3_walls_31 rfl (lv_at hl 3 rfl) ?_
          obtain ⟨u_469, hc_470, h⟩ := bd_inv h
          refine wafter_i (wr := (w_R G r0 r1 r2 r3 r_s r_n r_w r_k)) (w2 := (w_R G r0 r1 r2 r3 r_s r_n r_w r_k)) (va_runSN (As := [.int x3]) (rest := [.int x2]) ⟨hx, hb, hml, hown, hts⟩ (kX4_bit (l := l) (G := G)   x3 N u_469 hc_470 _) ⟨va_cnB 1 hts gX3_walls_X4_bit_n82 rfl rfl rfl (hK.2 (.methodLinkNest RX3 82 yX4_bit RX4) (by simp [wNest])) (hts (.initialized RX4) (by decide +kernel)) (by decide +kernel) ⟨Nat.le_of_ble_eq_true rfl, Nat.le_of_ble_eq_true rfl⟩, hts (.static yX4_bit) (by decide +kernel), trivial⟩ (wPreS hP hD hK [] rfl rfl) rfl rfl hl.1 rfl (lv_room (Nat.le_of_ble_eq_true rfl)) dX3_walls_32 ⟨Nat.zero_le _, Nat.zero_le _⟩) hP hD hS hA [] [0, 1, 2, 3] [0, 1, 2, 3] rfl rfl rfl (by decide) rfl rfl (fun H locs hP hD hS => ?_)
          refine lv_ior hx hb dX3_walls_35 ?_
          refine lv_istore_n (lv' := [(2, .int (x2 ||| u_469)), (0, .ref r0), (1, .int x1), (3, .int x3)]) hx hb dX3_walls_36 rfl hl (by decide) rfl (fun ls hl => ?_)
          refine lv_iinc (v := (x3 + 1)) (lv' := [(3, .int (x3 + 1)), (2, .int (x2 ||| u_469)), (0, .ref r0), (1, .int x1)]) hx hb dX3_walls_37 hl (k := 3) rfl rfl (by decide) rfl (fun ls hl => ?_)
          refine lv_goto (tgt := 4) hx hb dX3_walls_40 (by decide) ?_
          exact ih _ _ _ _ _ hP hD hS (lv_sub hl [2, 3, 1, 0] rfl) h
  rw [fX3_walls.eq_1] at h
  refine lv_iconst (v := 0) hx hb dX3_walls_0 (by decide) ?_
  refine lv_istore_n (lv' := [(2, .int 0), (0, .ref r0), (1, .int x1)]) hx hb dX3_walls_1 rfl hl (by decide) rfl (fun ls hl => ?_)
  refine lv_iconst (v := 0) hx hb dX3_walls_2 (by decide) ?_
  refine lv_istore_n (lv' := [(3, .int 0), (2, .int 0), (0, .ref r0), (1, .int x1)]) hx hb dX3_walls_3 rfl hl (by decide) rfl (fun ls hl => ?_)
  exact w_4  _  ()  N _ _  _ _ _ hP hD hS (lv_sub hl [2, 3, 1, 0] rfl) h
def fX3_numberOf (N : Nat) (r_n : Nat → Int32) (x1 : Int32) : Option (Int32) := rd r_n 512 x1 (fun v_471 => some v_471)
set_option maxHeartbeats 4000000 in
set_option maxRecDepth 100000 in
theorem kX3_numberOf {l : Launch} {G : wG} (r0 r1 r2 r3 : Nat) (r_s : Nat → Int32) (r_n : Nat → Int32) (r_w : Nat → Int32) (r_k : Int32) (x1 : Int32) (N : Nat) (v : Int32) (h : fX3_numberOf N r_n x1 = some v) : wCi l G yX3_numberOf wsX3_numberOf ({ frames := 0, cells := 0, slots := 0, locals := 0 } : Room) [.ref r0, .int x1] (w_R G r0 r1 r2 r3 r_s r_n r_w r_k) (w_R G r0 r1 r2 r3 r_s r_n r_w r_k) 0 0 v := by
  refine wCi.mk (cc := cX3_numberOf) (maxL := 2) (ty := .int) (by decide) rfl (Nat.le_of_ble_eq_true rfl) ?_
  intro p e s m below meth c A ls hx hb hml hr hlocks hts hown hK hA hP hD hl
  have hx : p.tables.exec = Jvm.exec := hx
  have hown : s.vm.findClass RX3 = some m.cls := hown
  have hinX3 : ∀ w ∈ wsX30, w ∈ wsX3_numberOf := by decide +kernel
  have lk15 := hts (.fieldLink RX3 15 "Chamberwright$Rooms" "numbers" "[I") (by decide +kernel)
  have hS : va_S A s.heap s.heap [] := va_S.rf
  have hP : va_P G.1 vwCl (w_R G r0 r1 r2 r3 r_s r_n r_w r_k) s.heap := hP
  have hD : va_D A (w_R G r0 r1 r2 r3 r_s r_n r_w r_k) := hD
  have hl : lv_has ls 2 [(0, .ref r0), (1, .int x1)] := hl
  obtain ⟨args, hargs⟩ : ∃ z : Array Value, z = ([.ref r0, .int x1] : List Value).toArray := ⟨_, rfl⟩
  rw [← hargs]
  rw [← hargs] at hts
  rw [fX3_numberOf.eq_1] at h
  refine lv_aload_n hx hb dX3_numberOf_0 rfl (lv_at hl 0 rfl) ?_
  refine va_get (D := G.1) (ci := 3) (v := .ref r2) (C := RX3) (T := TX3) (N := 4) hx hb hts hinX3 hown hK.1 hP 0 rfl rfl 1 (by decide) lk15 (fun _ h9 => h9) rfl dX3_numberOf_1 ?_
  refine lv_iload_n hx hb dX3_numberOf_4 rfl (lv_at hl 1 rfl) ?_
  refine wiald h hx hb hK hP 2 rfl dX3_numberOf_5 (fun v_471 h => ?_)
  obtain rfl := Option.some.inj h
  exact wri hx hb hr hlocks hP hD hS (Nat.le_of_ble_eq_true rfl) (Nat.le_of_ble_eq_true rfl) rfl dX3_numberOf_6
def fX3_waysInto_b19 (N : Nat) (r_w : Nat → Int32) (x1 : Int32) (x2 : Int32) : Nat → Int32 → Int32 → Option (Int32)
  | 0, _, _ => none
  | n + 1, x3, x4 => if 9 ≤ x4 then some x3 else bd (fX4_isIn N x2 x4) (fun u_473 => if u_473 = 0 then fX3_waysInto_b19 N r_w x1 x2 n x3 (x4 + 1) else bd (fX4_bit N x4) (fun u_476 => rd r_w 512 ((x1 ^^^ x2) ^^^ u_476) (fun v_478 => fX3_waysInto_b19 N r_w x1 x2 n (x3 + v_478) (x4 + 1))))
def fX3_waysInto (N : Nat) (r_n : Nat → Int32) (r_w : Nat → Int32) (x1 : Int32) (x2 : Int32) : Option (Int32) := rd r_n 512 (x1 ^^^ x2) (fun v_479 => if v_479 = (-1) then some 0 else fX3_waysInto_b19 N r_w x1 x2 N 0 0)
set_option maxHeartbeats 4000000 in
set_option maxRecDepth 100000 in
theorem kX3_waysInto {l : Launch} {G : wG} (r0 r1 r2 r3 : Nat) (r_s : Nat → Int32) (r_n : Nat → Int32) (r_w : Nat → Int32) (r_k : Int32) (x1 : Int32) (x2 : Int32) (N : Nat) (v : Int32) (h : fX3_waysInto N r_n r_w x1 x2 = some v) : wCi l G yX3_waysInto wsX3_waysInto ({ frames := 2, cells := 0, slots := 0, locals := 41 } : Room) [.ref r0, .int x1, .int x2] (w_R G r0 r1 r2 r3 r_s r_n r_w r_k) (w_R G r0 r1 r2 r3 r_s r_n r_w r_k) 0 0 v := by
  refine wCi.mk (cc := cX3_waysInto) (maxL := 5) (ty := .int) (by decide) rfl (Nat.le_of_ble_eq_true rfl) ?_
  intro p e s m below meth c A ls hx hb hml hr hlocks hts hown hK hA hP hD hl
  have hx : p.tables.exec = Jvm.exec := hx
  have hown : s.vm.findClass RX3 = some m.cls := hown
  have hinX3 : ∀ w ∈ wsX30, w ∈ wsX3_waysInto := by decide +kernel
  have lk15 := hts (.fieldLink RX3 15 "Chamberwright$Rooms" "numbers" "[I") (by decide +kernel)
  have lk18 := hts (.fieldLink RX3 18 "Chamberwright$Rooms" "ways" "[I") (by decide +kernel)
  have hS : va_S A s.heap s.heap [] := va_S.rf
  have hP : va_P G.1 vwCl (w_R G r0 r1 r2 r3 r_s r_n r_w r_k) s.heap := hP
  have hD : va_D A (w_R G r0 r1 r2 r3 r_s r_n r_w r_k) := hD
  have hl : lv_has ls 5 [(0, .ref r0), (1, .int x1), (2, .int x2)] := hl
  obtain ⟨args, hargs⟩ : ∃ z : Array Value, z = ([.ref r0, .int x1, .int x2] : List Value).toArray := ⟨_, rfl⟩
  rw [← hargs]
  rw [← hargs] at hts
  have w_19 : ∀ (x1 : Int32) (x2 : Int32)  (_z : Unit), ∀ (n : Nat) (x3 : Int32) (x4 : Int32)  (H : Heap) (locs : List Loc) (ls : Array Slot), va_P G.1 vwCl (w_R G r0 r1 r2 r3 r_s r_n r_w r_k) H → va_D A (w_R G r0 r1 r2 r3 r_s r_n r_w r_k) → va_S A s.heap H locs → lv_has ls 5 [(0, .ref r0), (1, .int x1), (2, .int x2), (3, .int x3), (4, .int x4)] → fX3_waysInto_b19 N r_w x1 x2 n x3 x4 = some v → W p l e ({ frames := 2, cells := 0, slots := 0, locals := 41 } : Room) s m args below meth c H locs 0 0 (wQi G A below args s (w_R G r0 r1 r2 r3 r_s r_n r_w r_k) 0 0 v) (F0 m 19 ls []) := by
    intro x1 x2 _z n
    induction n with
    | zero =>
      intro x3 x4 H locs ls hP hD hS hl h
      rw [fX3_waysInto_b19.eq_1] at h
      cases h
    | succ n ih =>
      intro x3 x4 H locs ls hP hD hS hl h
      rw [fX3_waysInto_b19.eq_2] at h
      refine lv_iload hx hb dX3_waysInto_19 (lv_at hl 4 rfl) ?_
      refine lv_bipush (v := 9) hx hb dX3_waysInto_21 (by decide) ?_
      refine lv_icmp_ge (tgt := 58) hx hb dX3_waysInto_23 (by decide) (fun c_472 => ?_) (fun c_472 => ?_)
      · have h := ip c_472 h
        refine lv_iload_n hx hb dX3_waysInto_58 rfl (lv_at hl 3 rfl) ?_
        obtain rfl := Option.some.inj h
        exact wri hx hb hr hlocks hP hD hS (Nat.le_of_ble_eq_true rfl) (Nat.le_of_ble_eq_true rfl) rfl dX3_waysInto_59
      · have h := iq c_472 h
        refine lv_iload_n hx hb dX3_waysInto_26 rfl (lv_at hl 2 rfl) ?_
        refine lv_iload hx hb dX3_waysInto_27 (lv_at hl 4 rfl) ?_
        obtain ⟨u_473, hc_474, h⟩ := bd_inv h
        refine wafter_i (wr := (w_R G r0 r1 r2 r3 r_s r_n r_w r_k)) (w2 := (w_R G r0 r1 r2 r3 r_s r_n r_w r_k)) (va_runSN (As := [.int x2, .int x4]) (rest := []) ⟨hx, hb, hml, hown, hts⟩ (kX4_isIn (l := l) (G := G)   x2 x4 N u_473 hc_474 _) ⟨va_cnB 2 hts gX3_waysInto_X4_isIn_n93 rfl rfl rfl (hK.2 (.methodLinkNest RX3 93 yX4_isIn RX4) (by simp [wNest])) (hts (.initialized RX4) (by decide +kernel)) (by decide +kernel) ⟨Nat.le_of_ble_eq_true rfl, Nat.le_of_ble_eq_true rfl⟩, hts (.static yX4_isIn) (by decide +kernel), trivial⟩ (wPreS hP hD hK [] rfl rfl) rfl rfl hl.1 rfl (lv_room (Nat.le_of_ble_eq_true rfl)) dX3_waysInto_29 ⟨Nat.zero_le _, Nat.zero_le _⟩) hP hD hS hA [] [0, 1, 2, 3] [0, 1, 2, 3] rfl rfl rfl (by decide) rfl rfl (fun H locs hP hD hS => ?_)
        refine lv_if_eq (tgt := 52) hx hb dX3_waysInto_32 (by decide) (fun c_475 => ?_) (fun c_475 => ?_)
        · have h := ip c_475 h
          refine lv_iinc (v := (x4 + 1)) (lv' := [(4, .int (x4 + 1)), (0, .ref r0), (1, .int x1), (2, .int x2), (3, .int x3)]) hx hb dX3_waysInto_52 hl (k := 4) rfl rfl (by decide) rfl (fun ls hl => ?_)
          refine lv_goto (tgt := 19) hx hb dX3_waysInto_55 (by decide) ?_
          exact ih _ _ _ _ _ hP hD hS (lv_sub hl [1, 2, 3, 4, 0] rfl) h
        · have h := iq c_475 h
          refine lv_iload_n hx hb dX3_waysInto_35 rfl (lv_at hl 3 rfl) ?_
          refine lv_aload_n hx hb dX3_waysInto_36 rfl (lv_at hl 0 rfl) ?_
          refine va_get (D := G.1) (ci := 3) (v := .ref r3) (C := RX3) (T := TX3) (N := 4) hx hb hts hinX3 hown hK.1 hP 0 rfl rfl 2 (by decide) lk18 (fun _ h9 => h9) rfl dX3_waysInto_37 ?_
          refine lv_iload_n hx hb dX3_waysInto_40 rfl (lv_at hl 1 rfl) ?_
          refine lv_iload_n hx hb dX3_waysInto_41 rfl (lv_at hl 2 rfl) ?_
          refine lv_ixor hx hb dX3_waysInto_42 ?_
          refine lv_iload hx hb dX3_waysInto_43 (lv_at hl 4 rfl) ?_
          obtain ⟨u_476, hc_477, h⟩ := bd_inv h
          refine wafter_i (wr := (w_R G r0 r1 r2 r3 r_s r_n r_w r_k)) (w2 := (w_R G r0 r1 r2 r3 r_s r_n r_w r_k)) (va_runSN (As := [.int x4]) (rest := [.int (x1 ^^^ x2), .ref r3, .int x3]) ⟨hx, hb, hml, hown, hts⟩ (kX4_bit (l := l) (G := G)   x4 N u_476 hc_477 _) ⟨va_cnB 1 hts gX3_waysInto_X4_bit_n82 rfl rfl rfl (hK.2 (.methodLinkNest RX3 82 yX4_bit RX4) (by simp [wNest])) (hts (.initialized RX4) (by decide +kernel)) (by decide +kernel) ⟨Nat.le_of_ble_eq_true rfl, Nat.le_of_ble_eq_true rfl⟩, hts (.static yX4_bit) (by decide +kernel), trivial⟩ (wPreS hP hD hK [] rfl rfl) rfl rfl hl.1 rfl (lv_room (Nat.le_of_ble_eq_true rfl)) dX3_waysInto_45 ⟨Nat.zero_le _, Nat.zero_le _⟩) hP hD hS hA [] [0, 1, 2, 3] [0, 1, 2, 3] rfl rfl rfl (by decide) rfl rfl (fun H locs hP hD hS => ?_)
          refine lv_ixor hx hb dX3_waysInto_48 ?_
          refine wiald h hx hb hK hP 3 rfl dX3_waysInto_49 (fun v_478 h => ?_)
          refine lv_iadd hx hb dX3_waysInto_50 ?_
          refine lv_istore_n (lv' := [(3, .int (x3 + v_478)), (0, .ref r0), (1, .int x1), (2, .int x2), (4, .int x4)]) hx hb dX3_waysInto_51 rfl hl (by decide) rfl (fun ls hl => ?_)
          refine lv_iinc (v := (x4 + 1)) (lv' := [(4, .int (x4 + 1)), (3, .int (x3 + v_478)), (0, .ref r0), (1, .int x1), (2, .int x2)]) hx hb dX3_waysInto_52 hl (k := 4) rfl rfl (by decide) rfl (fun ls hl => ?_)
          refine lv_goto (tgt := 19) hx hb dX3_waysInto_55 (by decide) ?_
          exact ih _ _ _ _ _ hP hD hS (lv_sub hl [2, 3, 4, 1, 0] rfl) h
  rw [fX3_waysInto.eq_1] at h
  refine lv_aload_n hx hb dX3_waysInto_0 rfl (lv_at hl 0 rfl) ?_
  refine va_get (D := G.1) (ci := 3) (v := .ref r2) (C := RX3) (T := TX3) (N := 4) hx hb hts hinX3 hown hK.1 hP 0 rfl rfl 1 (by decide) lk15 (fun _ h9 => h9) rfl dX3_waysInto_1 ?_
  refine lv_iload_n hx hb dX3_waysInto_4 rfl (lv_at hl 1 rfl) ?_
  refine lv_iload_n hx hb dX3_waysInto_5 rfl (lv_at hl 2 rfl) ?_
  refine lv_ixor hx hb dX3_waysInto_6 ?_
  refine wiald h hx hb hK hP 2 rfl dX3_waysInto_7 (fun v_479 h => ?_)
  refine lv_iconst (v := (-1)) hx hb dX3_waysInto_8 (by decide) ?_
  refine lv_icmp_ne (tgt := 14) hx hb dX3_waysInto_9 (by decide) (fun c_480 => ?_) (fun c_480 => ?_)
  · have h := iq c_480 h
    refine lv_iconst (v := 0) hx hb dX3_waysInto_14 (by decide) ?_
    refine lv_istore_n (lv' := [(3, .int 0), (0, .ref r0), (1, .int x1), (2, .int x2)]) hx hb dX3_waysInto_15 rfl hl (by decide) rfl (fun ls hl => ?_)
    refine lv_iconst (v := 0) hx hb dX3_waysInto_16 (by decide) ?_
    refine lv_istore (lv' := [(4, .int 0), (3, .int 0), (0, .ref r0), (1, .int x1), (2, .int x2)]) hx hb dX3_waysInto_17 hl (by decide) rfl (fun ls hl => ?_)
    exact w_19  _ _  ()  N _ _  _ _ _ hP hD hS (lv_sub hl [2, 3, 4, 1, 0] rfl) h
  · have h := ip c_480 h
    refine lv_iconst (v := 0) hx hb dX3_waysInto_12 (by decide) ?_
    obtain rfl := Option.some.inj h
    exact wri hx hb hr hlocks hP hD hS (Nat.le_of_ble_eq_true rfl) (Nat.le_of_ble_eq_true rfl) rfl dX3_waysInto_13
def fX3_shortestWays_b27 (N : Nat) (r_n : Nat → Int32) (x3 : Int32) (x4 : Int32) : Nat → Int32 → (Nat → Int32) → Option (Int32 × (Nat → Int32))
  | 0, _, _ => none
  | n + 1, x5, r_w => if x4 < x5 then rd r_w 512 (x3 ^^^ x4) (fun v_482 => some (v_482, r_w)) else if (x5 &&& (x4 ^^^ (-1))) = 0 then bd (fX3_waysInto N r_n r_w x3 x5) (fun u_484 => ck 512 (x3 ^^^ x5) (fX3_shortestWays_b27 N r_n x3 x4 n (x5 + 1) ((upd r_w (Int32.toNatClampNeg (x3 ^^^ x5)) u_484)))) else fX3_shortestWays_b27 N r_n x3 x4 n (x5 + 1) r_w
def fX3_shortestWays (N : Nat) (r_s : Nat → Int32) (r_n : Nat → Int32) (r_w : Nat → Int32) (x1 : Int32) (x2 : Int32) : Option (Int32 × (Nat → Int32)) := rd r_s 46 x1 (fun v_486 => rd r_s 46 x2 (fun v_487 => ck 512 v_486 (fX3_shortestWays_b27 N r_n v_486 (v_486 ^^^ v_487) N 1 ((upd r_w (Int32.toNatClampNeg v_486) 1)))))
set_option maxHeartbeats 4000000 in
set_option maxRecDepth 100000 in
theorem kX3_shortestWays {l : Launch} {G : wG} (r0 r1 r2 r3 : Nat) (r_s : Nat → Int32) (r_n : Nat → Int32) (r_w : Nat → Int32) (r_k : Int32) (x1 : Int32) (x2 : Int32) (N : Nat) (v : Int32 × (Nat → Int32)) (h : fX3_shortestWays N r_s r_n r_w x1 x2 = some v) : wCi l G yX3_shortestWays wsX3_shortestWays ({ frames := 3, cells := 0, slots := 0, locals := 65 } : Room) [.ref r0, .int x1, .int x2] (w_R G r0 r1 r2 r3 r_s r_n r_w r_k) (w_R G r0 r1 r2 r3 r_s r_n v.2 r_k) 0 0 v.1 := by
  refine wCi.mk (cc := cX3_shortestWays) (maxL := 6) (ty := .int) (by decide) rfl (Nat.le_of_ble_eq_true rfl) ?_
  intro p e s m below meth c A ls hx hb hml hr hlocks hts hown hK hA hP hD hl
  have hx : p.tables.exec = Jvm.exec := hx
  have hown : s.vm.findClass RX3 = some m.cls := hown
  have hinX3 : ∀ w ∈ wsX30, w ∈ wsX3_shortestWays := by decide +kernel
  have lk18 := hts (.fieldLink RX3 18 "Chamberwright$Rooms" "ways" "[I") (by decide +kernel)
  have lk9 := hts (.fieldLink RX3 9 "Chamberwright$Rooms" "sets" "[I") (by decide +kernel)
  have hS : va_S A s.heap s.heap [] := va_S.rf
  have hP : va_P G.1 vwCl (w_R G r0 r1 r2 r3 r_s r_n r_w r_k) s.heap := hP
  have hD : va_D A (w_R G r0 r1 r2 r3 r_s r_n r_w r_k) := hD
  have hl : lv_has ls 6 [(0, .ref r0), (1, .int x1), (2, .int x2)] := hl
  obtain ⟨args, hargs⟩ : ∃ z : Array Value, z = ([.ref r0, .int x1, .int x2] : List Value).toArray := ⟨_, rfl⟩
  rw [← hargs]
  rw [← hargs] at hts
  have w_27 : ∀ (x3 : Int32) (x4 : Int32)  (_z : Unit), ∀ (n : Nat) (x5 : Int32) (r_w : Nat → Int32) (H : Heap) (locs : List Loc) (ls : Array Slot), va_P G.1 vwCl (w_R G r0 r1 r2 r3 r_s r_n r_w r_k) H → va_D A (w_R G r0 r1 r2 r3 r_s r_n r_w r_k) → va_S A s.heap H locs → lv_has ls 6 [(0, .ref r0), (3, .int x3), (4, .int x4), (5, .int x5)] → fX3_shortestWays_b27 N r_n x3 x4 n x5 r_w = some v → W p l e ({ frames := 3, cells := 0, slots := 0, locals := 65 } : Room) s m args below meth c H locs 0 0 (wQi G A below args s (w_R G r0 r1 r2 r3 r_s r_n v.2 r_k) 0 0 v.1) (F0 m 27 ls []) := by
    intro x3 x4 _z n
    induction n with
    | zero =>
      intro x5 r_w H locs ls hP hD hS hl h
      rw [fX3_shortestWays_b27.eq_1] at h
      cases h
    | succ n ih =>
      intro x5 r_w H locs ls hP hD hS hl h
      rw [fX3_shortestWays_b27.eq_2] at h
      refine lv_iload hx hb dX3_shortestWays_27 (lv_at hl 3 rfl) ?_
      refine lv_iload hx hb dX3_shortestWays_29 (lv_at hl 2 rfl) ?_
      refine lv_icmp_gt (tgt := 66) hx hb dX3_shortestWays_31 (by decide) (fun c_481 => ?_) (fun c_481 => ?_)
      · have h := ip c_481 h
        refine lv_aload_n hx hb dX3_shortestWays_66 rfl (lv_at hl 0 rfl) ?_
        refine va_get (D := G.1) (ci := 3) (v := .ref r3) (C := RX3) (T := TX3) (N := 4) hx hb hts hinX3 hown hK.1 hP 0 rfl rfl 2 (by decide) lk18 (fun _ h9 => h9) rfl dX3_shortestWays_67 ?_
        refine lv_iload_n hx hb dX3_shortestWays_70 rfl (lv_at hl 1 rfl) ?_
        refine lv_iload hx hb dX3_shortestWays_71 (lv_at hl 2 rfl) ?_
        refine lv_ixor hx hb dX3_shortestWays_73 ?_
        refine wiald h hx hb hK hP 3 rfl dX3_shortestWays_74 (fun v_482 h => ?_)
        obtain rfl := Option.some.inj h
        exact wri hx hb hr hlocks hP hD hS (Nat.le_of_ble_eq_true rfl) (Nat.le_of_ble_eq_true rfl) rfl dX3_shortestWays_75
      · have h := iq c_481 h
        refine lv_iload hx hb dX3_shortestWays_34 (lv_at hl 3 rfl) ?_
        refine lv_iload hx hb dX3_shortestWays_36 (lv_at hl 2 rfl) ?_
        refine lv_iconst (v := (-1)) hx hb dX3_shortestWays_38 (by decide) ?_
        refine lv_ixor hx hb dX3_shortestWays_39 ?_
        refine lv_iand hx hb dX3_shortestWays_40 ?_
        refine lv_if_ne (tgt := 60) hx hb dX3_shortestWays_41 (by decide) (fun c_483 => ?_) (fun c_483 => ?_)
        · have h := iq c_483 h
          refine lv_iinc (v := (x5 + 1)) (lv' := [(5, .int (x5 + 1)), (0, .ref r0), (3, .int x3), (4, .int x4)]) hx hb dX3_shortestWays_60 hl (k := 3) rfl rfl (by decide) rfl (fun ls hl => ?_)
          refine lv_goto (tgt := 27) hx hb dX3_shortestWays_63 (by decide) ?_
          exact ih _ _ _ _ _ hP hD hS (lv_sub hl [1, 2, 3, 0] rfl) h
        · have h := ip c_483 h
          refine lv_aload_n hx hb dX3_shortestWays_44 rfl (lv_at hl 0 rfl) ?_
          refine va_get (D := G.1) (ci := 3) (v := .ref r3) (C := RX3) (T := TX3) (N := 4) hx hb hts hinX3 hown hK.1 hP 0 rfl rfl 2 (by decide) lk18 (fun _ h9 => h9) rfl dX3_shortestWays_45 ?_
          refine lv_iload_n hx hb dX3_shortestWays_48 rfl (lv_at hl 1 rfl) ?_
          refine lv_iload hx hb dX3_shortestWays_49 (lv_at hl 3 rfl) ?_
          refine lv_ixor hx hb dX3_shortestWays_51 ?_
          refine lv_aload_n hx hb dX3_shortestWays_52 rfl (lv_at hl 0 rfl) ?_
          refine lv_iload_n hx hb dX3_shortestWays_53 rfl (lv_at hl 1 rfl) ?_
          refine lv_iload hx hb dX3_shortestWays_54 (lv_at hl 3 rfl) ?_
          obtain ⟨u_484, hc_485, h⟩ := bd_inv h
          refine wafter_i (wr := []) (w2 := (w_R G r0 r1 r2 r3 r_s r_n r_w r_k)) (va_runV (As := [.int x3, .int x5]) (rest := [.int (x3 ^^^ x5), .ref r3]) ⟨hx, hb, hml, hown, hts⟩ (kX3_waysInto (l := l) (G := G) r0 r1 r2 r3 r_s r_n r_w r_k x3 x5 N u_484 hc_485 _) (cwV 2 hts gX3_shortestWays_X3_waysInto rfl rfl rfl (by decide +kernel) ⟨Nat.le_of_ble_eq_true rfl, Nat.le_of_ble_eq_true rfl⟩) (wPreV hP hD hK [0, 1, 2, 3] rfl rfl (ci := 3) (qb := 0) rfl rfl rfl) rfl rfl hl.1 rfl (lv_room (Nat.le_of_ble_eq_true rfl)) dX3_shortestWays_56 ⟨Nat.zero_le _, Nat.zero_le _⟩) hP hD hS hA [0, 1, 2, 3] [] [0, 1, 2, 3] rfl rfl rfl (by decide) rfl rfl (fun H locs hP hD hS => ?_)
          refine wiast h hx hb hK hP hD hS 3 rfl dX3_shortestWays_59 (fun H locs hP hD hS h => ?_)
          have hP : va_P G.1 vwCl (w_R G r0 r1 r2 r3 r_s r_n ((upd r_w (Int32.toNatClampNeg (x3 ^^^ x5)) u_484)) r_k) H := hP
          have hD : va_D A (w_R G r0 r1 r2 r3 r_s r_n ((upd r_w (Int32.toNatClampNeg (x3 ^^^ x5)) u_484)) r_k) := hD
          refine lv_iinc (v := (x5 + 1)) (lv' := [(5, .int (x5 + 1)), (0, .ref r0), (3, .int x3), (4, .int x4)]) hx hb dX3_shortestWays_60 hl (k := 3) rfl rfl (by decide) rfl (fun ls hl => ?_)
          refine lv_goto (tgt := 27) hx hb dX3_shortestWays_63 (by decide) ?_
          exact ih _ _ _ _ _ hP hD hS (lv_sub hl [1, 2, 3, 0] rfl) h
  rw [fX3_shortestWays.eq_1] at h
  refine lv_aload_n hx hb dX3_shortestWays_0 rfl (lv_at hl 0 rfl) ?_
  refine va_get (D := G.1) (ci := 3) (v := .ref r1) (C := RX3) (T := TX3) (N := 4) hx hb hts hinX3 hown hK.1 hP 0 rfl rfl 0 (by decide) lk9 (fun _ h9 => h9) rfl dX3_shortestWays_1 ?_
  refine lv_iload_n hx hb dX3_shortestWays_4 rfl (lv_at hl 1 rfl) ?_
  refine wiald h hx hb hK hP 1 rfl dX3_shortestWays_5 (fun v_486 h => ?_)
  refine lv_istore_n (lv' := [(3, .int v_486), (0, .ref r0), (1, .int x1), (2, .int x2)]) hx hb dX3_shortestWays_6 rfl hl (by decide) rfl (fun ls hl => ?_)
  refine lv_iload_n hx hb dX3_shortestWays_7 rfl (lv_at hl 0 rfl) ?_
  refine lv_aload_n hx hb dX3_shortestWays_8 rfl (lv_at hl 1 rfl) ?_
  refine va_get (D := G.1) (ci := 3) (v := .ref r1) (C := RX3) (T := TX3) (N := 4) hx hb hts hinX3 hown hK.1 hP 0 rfl rfl 0 (by decide) lk9 (fun _ h9 => h9) rfl dX3_shortestWays_9 ?_
  refine lv_iload_n hx hb dX3_shortestWays_12 rfl (lv_at hl 3 rfl) ?_
  refine wiald h hx hb hK hP 1 rfl dX3_shortestWays_13 (fun v_487 h => ?_)
  refine lv_ixor hx hb dX3_shortestWays_14 ?_
  refine lv_istore (lv' := [(4, .int (v_486 ^^^ v_487)), (3, .int v_486), (0, .ref r0), (1, .int x1), (2, .int x2)]) hx hb dX3_shortestWays_15 hl (by decide) rfl (fun ls hl => ?_)
  refine lv_aload_n hx hb dX3_shortestWays_17 rfl (lv_at hl 2 rfl) ?_
  refine va_get (D := G.1) (ci := 3) (v := .ref r3) (C := RX3) (T := TX3) (N := 4) hx hb hts hinX3 hown hK.1 hP 0 rfl rfl 2 (by decide) lk18 (fun _ h9 => h9) rfl dX3_shortestWays_18 ?_
  refine lv_iload_n hx hb dX3_shortestWays_21 rfl (lv_at hl 1 rfl) ?_
  refine lv_iconst (v := 1) hx hb dX3_shortestWays_22 (by decide) ?_
  refine wiast h hx hb hK hP hD hS 3 rfl dX3_shortestWays_23 (fun H locs hP hD hS h => ?_)
  have hP : va_P G.1 vwCl (w_R G r0 r1 r2 r3 r_s r_n ((upd r_w (Int32.toNatClampNeg v_486) 1)) r_k) H := hP
  have hD : va_D A (w_R G r0 r1 r2 r3 r_s r_n ((upd r_w (Int32.toNatClampNeg v_486) 1)) r_k) := hD
  refine lv_iconst (v := 1) hx hb dX3_shortestWays_24 (by decide) ?_
  refine lv_istore (lv' := [(5, .int 1), (4, .int (v_486 ^^^ v_487)), (3, .int v_486), (0, .ref r0), (1, .int x1), (2, .int x2)]) hx hb dX3_shortestWays_25 hl (by decide) rfl (fun ls hl => ?_)
  exact w_27  _ _  ()  N _ _ _ _ _ hP hD hS (lv_sub hl [3, 2, 1, 0] rfl) h
def fX3_stepTowards_b2 (N : Nat) (r_n : Nat → Int32) (x1 : Int32) (x2 : Int32) (k_33 : Int32 → Option (Int32)) : Nat → Int32 → Option (Int32)
  | 0, _ => none
  | n + 1, x3 => if 9 ≤ x3 then some x1 else bd (fX4_isIn N (x1 ^^^ x2) x3) (fun u_489 => if u_489 = 0 then fX3_stepTowards_b2 N r_n x1 x2 k_33 n (x3 + 1) else bd (fX4_bit N x3) (fun u_492 => rd r_n 512 (x1 ^^^ u_492) (fun v_494 => if v_494 = (-1) then fX3_stepTowards_b2 N r_n x1 x2 k_33 n (x3 + 1) else k_33 x3)))
def fX3_stepTowards (N : Nat) (r_n : Nat → Int32) (x1 : Int32) (x2 : Int32) : Option (Int32) := fX3_stepTowards_b2 N r_n x1 x2 (fun (x3_496 : Int32) => bd (fX4_bit N x3_496) (fun u_497 => some ((x1 ^^^ u_497)))) N 0
set_option maxHeartbeats 4000000 in
set_option maxRecDepth 100000 in
theorem kX3_stepTowards {l : Launch} {G : wG} (r0 r1 r2 r3 : Nat) (r_s : Nat → Int32) (r_n : Nat → Int32) (r_w : Nat → Int32) (r_k : Int32) (x1 : Int32) (x2 : Int32) (N : Nat) (v : Int32) (h : fX3_stepTowards N r_n x1 x2 = some v) : wCi l G yX3_stepTowards wsX3_stepTowards ({ frames := 2, cells := 0, slots := 0, locals := 41 } : Room) [.ref r0, .int x1, .int x2] (w_R G r0 r1 r2 r3 r_s r_n r_w r_k) (w_R G r0 r1 r2 r3 r_s r_n r_w r_k) 0 0 v := by
  refine wCi.mk (cc := cX3_stepTowards) (maxL := 4) (ty := .int) (by decide) rfl (Nat.le_of_ble_eq_true rfl) ?_
  intro p e s m below meth c A ls hx hb hml hr hlocks hts hown hK hA hP hD hl
  have hx : p.tables.exec = Jvm.exec := hx
  have hown : s.vm.findClass RX3 = some m.cls := hown
  have hinX3 : ∀ w ∈ wsX30, w ∈ wsX3_stepTowards := by decide +kernel
  have lk15 := hts (.fieldLink RX3 15 "Chamberwright$Rooms" "numbers" "[I") (by decide +kernel)
  have hS : va_S A s.heap s.heap [] := va_S.rf
  have hP : va_P G.1 vwCl (w_R G r0 r1 r2 r3 r_s r_n r_w r_k) s.heap := hP
  have hD : va_D A (w_R G r0 r1 r2 r3 r_s r_n r_w r_k) := hD
  have hl : lv_has ls 4 [(0, .ref r0), (1, .int x1), (2, .int x2)] := hl
  obtain ⟨args, hargs⟩ : ∃ z : Array Value, z = ([.ref r0, .int x1, .int x2] : List Value).toArray := ⟨_, rfl⟩
  rw [← hargs]
  rw [← hargs] at hts
  have w_2 : ∀ (k_33 : Int32 → Option (Int32)) (x1 : Int32) (x2 : Int32)  (_z : Unit), (∀ (y3 : Int32) (H : Heap) (locs : List Loc) (ls : Array Slot), va_P G.1 vwCl (w_R G r0 r1 r2 r3 r_s r_n r_w r_k) H → va_D A (w_R G r0 r1 r2 r3 r_s r_n r_w r_k) → va_S A s.heap H locs → lv_has ls 4 [(1, .int x1), (3, .int y3)] → k_33 y3 = some v → W p l e ({ frames := 2, cells := 0, slots := 0, locals := 41 } : Room) s m args below meth c H locs 0 0 (wQi G A below args s (w_R G r0 r1 r2 r3 r_s r_n r_w r_k) 0 0 v) (F0 m 33 ls [])) → ∀ (n : Nat) (x3 : Int32)  (H : Heap) (locs : List Loc) (ls : Array Slot), va_P G.1 vwCl (w_R G r0 r1 r2 r3 r_s r_n r_w r_k) H → va_D A (w_R G r0 r1 r2 r3 r_s r_n r_w r_k) → va_S A s.heap H locs → lv_has ls 4 [(0, .ref r0), (1, .int x1), (2, .int x2), (3, .int x3)] → fX3_stepTowards_b2 N r_n x1 x2 k_33 n x3 = some v → W p l e ({ frames := 2, cells := 0, slots := 0, locals := 41 } : Room) s m args below meth c H locs 0 0 (wQi G A below args s (w_R G r0 r1 r2 r3 r_s r_n r_w r_k) 0 0 v) (F0 m 2 ls []) := by
    intro k_33 x1 x2 _z hk_33 n
    induction n with
    | zero =>
      intro x3 H locs ls hP hD hS hl h
      rw [fX3_stepTowards_b2.eq_1] at h
      cases h
    | succ n ih =>
      intro x3 H locs ls hP hD hS hl h
      rw [fX3_stepTowards_b2.eq_2] at h
      refine lv_iload_n hx hb dX3_stepTowards_2 rfl (lv_at hl 3 rfl) ?_
      refine lv_bipush (v := 9) hx hb dX3_stepTowards_3 (by decide) ?_
      refine lv_icmp_ge (tgt := 46) hx hb dX3_stepTowards_5 (by decide) (fun c_488 => ?_) (fun c_488 => ?_)
      · have h := ip c_488 h
        refine lv_iload_n hx hb dX3_stepTowards_46 rfl (lv_at hl 1 rfl) ?_
        obtain rfl := Option.some.inj h
        exact wri hx hb hr hlocks hP hD hS (Nat.le_of_ble_eq_true rfl) (Nat.le_of_ble_eq_true rfl) rfl dX3_stepTowards_47
      · have h := iq c_488 h
        refine lv_iload_n hx hb dX3_stepTowards_8 rfl (lv_at hl 1 rfl) ?_
        refine lv_iload_n hx hb dX3_stepTowards_9 rfl (lv_at hl 2 rfl) ?_
        refine lv_ixor hx hb dX3_stepTowards_10 ?_
        refine lv_iload_n hx hb dX3_stepTowards_11 rfl (lv_at hl 3 rfl) ?_
        obtain ⟨u_489, hc_490, h⟩ := bd_inv h
        refine wafter_i (wr := (w_R G r0 r1 r2 r3 r_s r_n r_w r_k)) (w2 := (w_R G r0 r1 r2 r3 r_s r_n r_w r_k)) (va_runSN (As := [.int (x1 ^^^ x2), .int x3]) (rest := []) ⟨hx, hb, hml, hown, hts⟩ (kX4_isIn (l := l) (G := G)   (x1 ^^^ x2) x3 N u_489 hc_490 _) ⟨va_cnB 2 hts gX3_stepTowards_X4_isIn_n93 rfl rfl rfl (hK.2 (.methodLinkNest RX3 93 yX4_isIn RX4) (by simp [wNest])) (hts (.initialized RX4) (by decide +kernel)) (by decide +kernel) ⟨Nat.le_of_ble_eq_true rfl, Nat.le_of_ble_eq_true rfl⟩, hts (.static yX4_isIn) (by decide +kernel), trivial⟩ (wPreS hP hD hK [] rfl rfl) rfl rfl hl.1 rfl (lv_room (Nat.le_of_ble_eq_true rfl)) dX3_stepTowards_12 ⟨Nat.zero_le _, Nat.zero_le _⟩) hP hD hS hA [] [0, 1, 2, 3] [0, 1, 2, 3] rfl rfl rfl (by decide) rfl rfl (fun H locs hP hD hS => ?_)
        refine lv_if_eq (tgt := 40) hx hb dX3_stepTowards_15 (by decide) (fun c_491 => ?_) (fun c_491 => ?_)
        · have h := ip c_491 h
          refine lv_iinc (v := (x3 + 1)) (lv' := [(3, .int (x3 + 1)), (0, .ref r0), (1, .int x1), (2, .int x2)]) hx hb dX3_stepTowards_40 hl (k := 3) rfl rfl (by decide) rfl (fun ls hl => ?_)
          refine lv_goto (tgt := 2) hx hb dX3_stepTowards_43 (by decide) ?_
          exact ih _ _ _ _ hP hD hS (lv_sub hl [1, 2, 3, 0] rfl) h
        · have h := iq c_491 h
          refine lv_aload_n hx hb dX3_stepTowards_18 rfl (lv_at hl 0 rfl) ?_
          refine va_get (D := G.1) (ci := 3) (v := .ref r2) (C := RX3) (T := TX3) (N := 4) hx hb hts hinX3 hown hK.1 hP 0 rfl rfl 1 (by decide) lk15 (fun _ h9 => h9) rfl dX3_stepTowards_19 ?_
          refine lv_iload_n hx hb dX3_stepTowards_22 rfl (lv_at hl 1 rfl) ?_
          refine lv_iload_n hx hb dX3_stepTowards_23 rfl (lv_at hl 3 rfl) ?_
          obtain ⟨u_492, hc_493, h⟩ := bd_inv h
          refine wafter_i (wr := (w_R G r0 r1 r2 r3 r_s r_n r_w r_k)) (w2 := (w_R G r0 r1 r2 r3 r_s r_n r_w r_k)) (va_runSN (As := [.int x3]) (rest := [.int x1, .ref r2]) ⟨hx, hb, hml, hown, hts⟩ (kX4_bit (l := l) (G := G)   x3 N u_492 hc_493 _) ⟨va_cnB 1 hts gX3_stepTowards_X4_bit_n82 rfl rfl rfl (hK.2 (.methodLinkNest RX3 82 yX4_bit RX4) (by simp [wNest])) (hts (.initialized RX4) (by decide +kernel)) (by decide +kernel) ⟨Nat.le_of_ble_eq_true rfl, Nat.le_of_ble_eq_true rfl⟩, hts (.static yX4_bit) (by decide +kernel), trivial⟩ (wPreS hP hD hK [] rfl rfl) rfl rfl hl.1 rfl (lv_room (Nat.le_of_ble_eq_true rfl)) dX3_stepTowards_24 ⟨Nat.zero_le _, Nat.zero_le _⟩) hP hD hS hA [] [0, 1, 2, 3] [0, 1, 2, 3] rfl rfl rfl (by decide) rfl rfl (fun H locs hP hD hS => ?_)
          refine lv_ixor hx hb dX3_stepTowards_27 ?_
          refine wiald h hx hb hK hP 2 rfl dX3_stepTowards_28 (fun v_494 h => ?_)
          refine lv_iconst (v := (-1)) hx hb dX3_stepTowards_29 (by decide) ?_
          refine lv_icmp_eq (tgt := 40) hx hb dX3_stepTowards_30 (by decide) (fun c_495 => ?_) (fun c_495 => ?_)
          · have h := ip c_495 h
            refine lv_iinc (v := (x3 + 1)) (lv' := [(3, .int (x3 + 1)), (0, .ref r0), (1, .int x1), (2, .int x2)]) hx hb dX3_stepTowards_40 hl (k := 3) rfl rfl (by decide) rfl (fun ls hl => ?_)
            refine lv_goto (tgt := 2) hx hb dX3_stepTowards_43 (by decide) ?_
            exact ih _ _ _ _ hP hD hS (lv_sub hl [1, 2, 3, 0] rfl) h
          · have h := iq c_495 h
            exact hk_33 _ _ _ _ hP hD hS (lv_sub hl [1, 3] rfl) h
  rw [fX3_stepTowards.eq_1] at h
  refine lv_iconst (v := 0) hx hb dX3_stepTowards_0 (by decide) ?_
  refine lv_istore_n (lv' := [(3, .int 0), (0, .ref r0), (1, .int x1), (2, .int x2)]) hx hb dX3_stepTowards_1 rfl hl (by decide) rfl (fun ls hl => ?_)
  refine w_2 _ _ _  () (fun x3_496 H locs ls hP hD hS hl h => ?_) N _  _ _ _ hP hD hS (lv_sub hl [1, 2, 3, 0] rfl) h
  refine lv_iload_n hx hb dX3_stepTowards_33 rfl (lv_at hl 0 rfl) ?_
  refine lv_iload_n hx hb dX3_stepTowards_34 rfl (lv_at hl 1 rfl) ?_
  obtain ⟨u_497, hc_498, h⟩ := bd_inv h
  refine wafter_i (wr := (w_R G r0 r1 r2 r3 r_s r_n r_w r_k)) (w2 := (w_R G r0 r1 r2 r3 r_s r_n r_w r_k)) (va_runSN (As := [.int x3_496]) (rest := [.int x1]) ⟨hx, hb, hml, hown, hts⟩ (kX4_bit (l := l) (G := G)   x3_496 N u_497 hc_498 _) ⟨va_cnB 1 hts gX3_stepTowards_X4_bit_n82 rfl rfl rfl (hK.2 (.methodLinkNest RX3 82 yX4_bit RX4) (by simp [wNest])) (hts (.initialized RX4) (by decide +kernel)) (by decide +kernel) ⟨Nat.le_of_ble_eq_true rfl, Nat.le_of_ble_eq_true rfl⟩, hts (.static yX4_bit) (by decide +kernel), trivial⟩ (wPreS hP hD hK [] rfl rfl) rfl rfl hl.1 rfl (lv_room (Nat.le_of_ble_eq_true rfl)) dX3_stepTowards_35 ⟨Nat.zero_le _, Nat.zero_le _⟩) hP hD hS hA [] [0, 1, 2, 3] [0, 1, 2, 3] rfl rfl rfl (by decide) rfl rfl (fun H locs hP hD hS => ?_)
  refine lv_ixor hx hb dX3_stepTowards_38 ?_
  obtain rfl := Option.some.inj h
  exact wri hx hb hr hlocks hP hD hS (Nat.le_of_ble_eq_true rfl) (Nat.le_of_ble_eq_true rfl) rfl dX3_stepTowards_39
def fX3_onFirstWay_b11 (N : Nat) (r_s : Nat → Int32) (r_n : Nat → Int32) (x2 : Int32) (x3 : Int32) (k_55 : Int32 → Option (Int32)) : Nat → Int32 → Int32 → Option (Int32)
  | 0, _, _ => none
  | n + 1, x4, x5 => if 9 ≤ x5 then k_55 x4 else if x3 ≤ x5 then k_55 x4 else rd r_s 46 x2 (fun v_501 => if x4 = v_501 then k_55 x4 else rd r_s 46 x2 (fun v_503 => bd (fX3_stepTowards N r_n x4 v_503) (fun u_504 => fX3_onFirstWay_b11 N r_s r_n x2 x3 k_55 n u_504 (x5 + 1))))
def fX3_onFirstWay (N : Nat) (r_s : Nat → Int32) (r_n : Nat → Int32) (x1 : Int32) (x2 : Int32) (x3 : Int32) : Option (Int32) := rd r_s 46 x1 (fun v_506 => fX3_onFirstWay_b11 N r_s r_n x2 x3 (fun (x4_507 : Int32) => rd r_s 46 x1 (fun v_508 => rd r_s 46 x2 (fun v_509 => bd (fJ6_bitCount_0f7a4 N (v_508 ^^^ v_509)) (fun u_510 => if u_510 < x3 then some ((-1)) else rd r_n 512 x4_507 (fun v_513 => some v_513))))) N v_506 0)
set_option maxHeartbeats 4000000 in
set_option maxRecDepth 100000 in
theorem kX3_onFirstWay {l : Launch} {G : wG} (r0 r1 r2 r3 : Nat) (r_s : Nat → Int32) (r_n : Nat → Int32) (r_w : Nat → Int32) (r_k : Int32) (x1 : Int32) (x2 : Int32) (x3 : Int32) (N : Nat) (v : Int32) (h : fX3_onFirstWay N r_s r_n x1 x2 x3 = some v) : wCi l G yX3_onFirstWay wsX3_onFirstWay ({ frames := 3, cells := 0, slots := 0, locals := 64 } : Room) [.ref r0, .int x1, .int x2, .int x3] (w_R G r0 r1 r2 r3 r_s r_n r_w r_k) (w_R G r0 r1 r2 r3 r_s r_n r_w r_k) 0 0 v := by
  refine wCi.mk (cc := cX3_onFirstWay) (maxL := 6) (ty := .int) (by decide) rfl (Nat.le_of_ble_eq_true rfl) ?_
  intro p e s m below meth c A ls hx hb hml hr hlocks hts hown hK hA hP hD hl
  have hx : p.tables.exec = Jvm.exec := hx
  have hown : s.vm.findClass RX3 = some m.cls := hown
  have hinX3 : ∀ w ∈ wsX30, w ∈ wsX3_onFirstWay := by decide +kernel
  have lk15 := hts (.fieldLink RX3 15 "Chamberwright$Rooms" "numbers" "[I") (by decide +kernel)
  have lk9 := hts (.fieldLink RX3 9 "Chamberwright$Rooms" "sets" "[I") (by decide +kernel)
  have hS : va_S A s.heap s.heap [] := va_S.rf
  have hP : va_P G.1 vwCl (w_R G r0 r1 r2 r3 r_s r_n r_w r_k) s.heap := hP
  have hD : va_D A (w_R G r0 r1 r2 r3 r_s r_n r_w r_k) := hD
  have hl : lv_has ls 6 [(0, .ref r0), (1, .int x1), (2, .int x2), (3, .int x3)] := hl
  obtain ⟨args, hargs⟩ : ∃ z : Array Value, z = ([.ref r0, .int x1, .int x2, .int x3] : List Value).toArray := ⟨_, rfl⟩
  rw [← hargs]
  rw [← hargs] at hts
  have w_11 : ∀ (k_55 : Int32 → Option (Int32)) (x1 : Int32) (x2 : Int32) (x3 : Int32)  (_z : Unit), (∀ (y4 : Int32) (H : Heap) (locs : List Loc) (ls : Array Slot), va_P G.1 vwCl (w_R G r0 r1 r2 r3 r_s r_n r_w r_k) H → va_D A (w_R G r0 r1 r2 r3 r_s r_n r_w r_k) → va_S A s.heap H locs → lv_has ls 6 [(0, .ref r0), (1, .int x1), (2, .int x2), (3, .int x3), (4, .int y4)] → k_55 y4 = some v → W p l e ({ frames := 3, cells := 0, slots := 0, locals := 64 } : Room) s m args below meth c H locs 0 0 (wQi G A below args s (w_R G r0 r1 r2 r3 r_s r_n r_w r_k) 0 0 v) (F0 m 55 ls [])) → ∀ (n : Nat) (x4 : Int32) (x5 : Int32)  (H : Heap) (locs : List Loc) (ls : Array Slot), va_P G.1 vwCl (w_R G r0 r1 r2 r3 r_s r_n r_w r_k) H → va_D A (w_R G r0 r1 r2 r3 r_s r_n r_w r_k) → va_S A s.heap H locs → lv_has ls 6 [(0, .ref r0), (1, .int x1), (2, .int x2), (3, .int x3), (4, .int x4), (5, .int x5)] → fX3_onFirstWay_b11 N r_s r_n x2 x3 k_55 n x4 x5 = some v → W p l e ({ frames := 3, cells := 0, slots := 0, locals := 64 } : Room) s m args below meth c H locs 0 0 (wQi G A below args s (w_R G r0 r1 r2 r3 r_s r_n r_w r_k) 0 0 v) (F0 m 11 ls []) := by
    intro k_55 x1 x2 x3 _z hk_55 n
    induction n with
    | zero =>
      intro x4 x5 H locs ls hP hD hS hl h
      rw [fX3_onFirstWay_b11.eq_1] at h
      cases h
    | succ n ih =>
      intro x4 x5 H locs ls hP hD hS hl h
      rw [fX3_onFirstWay_b11.eq_2] at h
      refine lv_iload hx hb dX3_onFirstWay_11 (lv_at hl 5 rfl) ?_
      refine lv_bipush (v := 9) hx hb dX3_onFirstWay_13 (by decide) ?_
      refine lv_icmp_ge (tgt := 55) hx hb dX3_onFirstWay_15 (by decide) (fun c_499 => ?_) (fun c_499 => ?_)
      · have h := ip c_499 h
        exact hk_55 _ _ _ _ hP hD hS (lv_sub hl [0, 1, 2, 3, 4] rfl) h
      · have h := iq c_499 h
        refine lv_iload hx hb dX3_onFirstWay_18 (lv_at hl 5 rfl) ?_
        refine lv_iload_n hx hb dX3_onFirstWay_20 rfl (lv_at hl 3 rfl) ?_
        refine lv_icmp_ge (tgt := 55) hx hb dX3_onFirstWay_21 (by decide) (fun c_500 => ?_) (fun c_500 => ?_)
        · have h := ip c_500 h
          exact hk_55 _ _ _ _ hP hD hS (lv_sub hl [0, 1, 2, 3, 4] rfl) h
        · have h := iq c_500 h
          refine lv_iload hx hb dX3_onFirstWay_24 (lv_at hl 4 rfl) ?_
          refine lv_aload_n hx hb dX3_onFirstWay_26 rfl (lv_at hl 0 rfl) ?_
          refine va_get (D := G.1) (ci := 3) (v := .ref r1) (C := RX3) (T := TX3) (N := 4) hx hb hts hinX3 hown hK.1 hP 0 rfl rfl 0 (by decide) lk9 (fun _ h9 => h9) rfl dX3_onFirstWay_27 ?_
          refine lv_iload_n hx hb dX3_onFirstWay_30 rfl (lv_at hl 2 rfl) ?_
          refine wiald h hx hb hK hP 1 rfl dX3_onFirstWay_31 (fun v_501 h => ?_)
          refine lv_icmp_eq (tgt := 55) hx hb dX3_onFirstWay_32 (by decide) (fun c_502 => ?_) (fun c_502 => ?_)
          · have h := ip c_502 h
            exact hk_55 _ _ _ _ hP hD hS (lv_sub hl [0, 1, 2, 3, 4] rfl) h
          · have h := iq c_502 h
            refine lv_aload_n hx hb dX3_onFirstWay_35 rfl (lv_at hl 0 rfl) ?_
            refine lv_iload hx hb dX3_onFirstWay_36 (lv_at hl 4 rfl) ?_
            refine lv_aload_n hx hb dX3_onFirstWay_38 rfl (lv_at hl 0 rfl) ?_
            refine va_get (D := G.1) (ci := 3) (v := .ref r1) (C := RX3) (T := TX3) (N := 4) hx hb hts hinX3 hown hK.1 hP 0 rfl rfl 0 (by decide) lk9 (fun _ h9 => h9) rfl dX3_onFirstWay_39 ?_
            refine lv_iload_n hx hb dX3_onFirstWay_42 rfl (lv_at hl 2 rfl) ?_
            refine wiald h hx hb hK hP 1 rfl dX3_onFirstWay_43 (fun v_503 h => ?_)
            obtain ⟨u_504, hc_505, h⟩ := bd_inv h
            refine wafter_i (wr := []) (w2 := (w_R G r0 r1 r2 r3 r_s r_n r_w r_k)) (va_runV (As := [.int x4, .int v_503]) (rest := []) ⟨hx, hb, hml, hown, hts⟩ (kX3_stepTowards (l := l) (G := G) r0 r1 r2 r3 r_s r_n r_w r_k x4 v_503 N u_504 hc_505 _) (cwV 2 hts gX3_onFirstWay_X3_stepTowards rfl rfl rfl (by decide +kernel) ⟨Nat.le_of_ble_eq_true rfl, Nat.le_of_ble_eq_true rfl⟩) (wPreV hP hD hK [0, 1, 2, 3] rfl rfl (ci := 3) (qb := 0) rfl rfl rfl) rfl rfl hl.1 rfl (lv_room (Nat.le_of_ble_eq_true rfl)) dX3_onFirstWay_44 ⟨Nat.zero_le _, Nat.zero_le _⟩) hP hD hS hA [0, 1, 2, 3] [] [0, 1, 2, 3] rfl rfl rfl (by decide) rfl rfl (fun H locs hP hD hS => ?_)
            refine lv_istore (lv' := [(4, .int u_504), (0, .ref r0), (1, .int x1), (2, .int x2), (3, .int x3), (5, .int x5)]) hx hb dX3_onFirstWay_47 hl (by decide) rfl (fun ls hl => ?_)
            refine lv_iinc (v := (x5 + 1)) (lv' := [(5, .int (x5 + 1)), (4, .int u_504), (0, .ref r0), (1, .int x1), (2, .int x2), (3, .int x3)]) hx hb dX3_onFirstWay_49 hl (k := 5) rfl rfl (by decide) rfl (fun ls hl => ?_)
            refine lv_goto (tgt := 11) hx hb dX3_onFirstWay_52 (by decide) ?_
            exact ih _ _ _ _ _ hP hD hS (lv_sub hl [2, 3, 4, 5, 1, 0] rfl) h
  rw [fX3_onFirstWay.eq_1] at h
  refine lv_aload_n hx hb dX3_onFirstWay_0 rfl (lv_at hl 0 rfl) ?_
  refine va_get (D := G.1) (ci := 3) (v := .ref r1) (C := RX3) (T := TX3) (N := 4) hx hb hts hinX3 hown hK.1 hP 0 rfl rfl 0 (by decide) lk9 (fun _ h9 => h9) rfl dX3_onFirstWay_1 ?_
  refine lv_iload_n hx hb dX3_onFirstWay_4 rfl (lv_at hl 1 rfl) ?_
  refine wiald h hx hb hK hP 1 rfl dX3_onFirstWay_5 (fun v_506 h => ?_)
  refine lv_istore (lv' := [(4, .int v_506), (0, .ref r0), (1, .int x1), (2, .int x2), (3, .int x3)]) hx hb dX3_onFirstWay_6 hl (by decide) rfl (fun ls hl => ?_)
  refine lv_iconst (v := 0) hx hb dX3_onFirstWay_8 (by decide) ?_
  refine lv_istore (lv' := [(5, .int 0), (4, .int v_506), (0, .ref r0), (1, .int x1), (2, .int x2), (3, .int x3)]) hx hb dX3_onFirstWay_9 hl (by decide) rfl (fun ls hl => ?_)
  refine w_11 _ _ _ _  () (fun x4_507 H locs ls hP hD hS hl h => ?_) N _ _  _ _ _ hP hD hS (lv_sub hl [2, 3, 4, 5, 1, 0] rfl) h
  refine lv_iload_n hx hb dX3_onFirstWay_55 rfl (lv_at hl 3 rfl) ?_
  refine lv_aload_n hx hb dX3_onFirstWay_56 rfl (lv_at hl 0 rfl) ?_
  refine va_get (D := G.1) (ci := 3) (v := .ref r1) (C := RX3) (T := TX3) (N := 4) hx hb hts hinX3 hown hK.1 hP 0 rfl rfl 0 (by decide) lk9 (fun _ h9 => h9) rfl dX3_onFirstWay_57 ?_
  refine lv_iload_n hx hb dX3_onFirstWay_60 rfl (lv_at hl 1 rfl) ?_
  refine wiald h hx hb hK hP 1 rfl dX3_onFirstWay_61 (fun v_508 h => ?_)
  refine lv_aload_n hx hb dX3_onFirstWay_62 rfl (lv_at hl 0 rfl) ?_
  refine va_get (D := G.1) (ci := 3) (v := .ref r1) (C := RX3) (T := TX3) (N := 4) hx hb hts hinX3 hown hK.1 hP 0 rfl rfl 0 (by decide) lk9 (fun _ h9 => h9) rfl dX3_onFirstWay_63 ?_
  refine lv_iload_n hx hb dX3_onFirstWay_66 rfl (lv_at hl 2 rfl) ?_
  refine wiald h hx hb hK hP 1 rfl dX3_onFirstWay_67 (fun v_509 h => ?_)
  refine lv_ixor hx hb dX3_onFirstWay_68 ?_
  obtain ⟨u_510, hc_511, h⟩ := bd_inv h
  refine wafter_i (wr := (w_R G r0 r1 r2 r3 r_s r_n r_w r_k)) (w2 := (w_R G r0 r1 r2 r3 r_s r_n r_w r_k)) (va_runS (As := [.int (v_508 ^^^ v_509)]) (rest := [.int x3]) ⟨hx, hb, hml, hown, hts⟩ (kJ6_bitCount_0f7a4 (l := l) (G := G)   (v_508 ^^^ v_509) N u_510 hc_511 _) (va_cwS 1 hts gX3_onFirstWay_J6_bitCount_0f7a4 rfl rfl rfl (by decide +kernel) ⟨Nat.le_of_ble_eq_true rfl, Nat.le_of_ble_eq_true rfl⟩) (wPreS hP hD hK [] rfl rfl) rfl rfl hl.1 rfl (lv_room (Nat.le_of_ble_eq_true rfl)) dX3_onFirstWay_69 ⟨Nat.zero_le _, Nat.zero_le _⟩) hP hD hS hA [] [0, 1, 2, 3] [0, 1, 2, 3] rfl rfl rfl (by decide) rfl rfl (fun H locs hP hD hS => ?_)
  refine lv_icmp_gt (tgt := 85) hx hb dX3_onFirstWay_72 (by decide) (fun c_512 => ?_) (fun c_512 => ?_)
  · have h := ip c_512 h
    refine lv_iconst (v := (-1)) hx hb dX3_onFirstWay_85 (by decide) ?_
    obtain rfl := Option.some.inj h
    exact wri hx hb hr hlocks hP hD hS (Nat.le_of_ble_eq_true rfl) (Nat.le_of_ble_eq_true rfl) rfl dX3_onFirstWay_86
  · have h := iq c_512 h
    refine lv_aload_n hx hb dX3_onFirstWay_75 rfl (lv_at hl 0 rfl) ?_
    refine va_get (D := G.1) (ci := 3) (v := .ref r2) (C := RX3) (T := TX3) (N := 4) hx hb hts hinX3 hown hK.1 hP 0 rfl rfl 1 (by decide) lk15 (fun _ h9 => h9) rfl dX3_onFirstWay_76 ?_
    refine lv_iload hx hb dX3_onFirstWay_79 (lv_at hl 4 rfl) ?_
    refine wiald h hx hb hK hP 2 rfl dX3_onFirstWay_81 (fun v_513 h => ?_)
    refine lv_goto (tgt := 86) hx hb dX3_onFirstWay_82 (by decide) ?_
    obtain rfl := Option.some.inj h
    exact wri hx hb hr hlocks hP hD hS (Nat.le_of_ble_eq_true rfl) (Nat.le_of_ble_eq_true rfl) rfl dX3_onFirstWay_86
def fX3_hasBound_b65 (N : Nat) (l_a : Nat → Int32) (l_b : Nat → Int32) (l_n : Int32) (r_s : Nat → Int32) (x2 : Int32) (x6 : Int32) (x7 : Int32) (x8 : Int32) (x5 : Int32) (k_3 : Int32 → Option (Int32)) : Option (Int32) := if 0 ≤ x8 then k_3 (x5 + 1) else rd r_s 46 x2 (fun v_515 => bd (fX1_staysIn N l_a l_b l_n v_515 (-x6) (-x7)) (fun u_516 => if u_516 = 0 then k_3 (x5 + 1) else zo 0 (some 0)))
def fX3_hasBound_b3 (N : Nat) (l_a : Nat → Int32) (l_b : Nat → Int32) (l_n : Int32) (r_s : Nat → Int32) (x2 : Int32) (x3 : Int32) (x4 : Int32) (k_97 : Option (Int32)) : Nat → Int32 → Option (Int32)
  | 0, _ => none
  | n + 1, x5 => bd (fX1_count N l_n) (fun u_519 => if u_519 ≤ x5 then k_97 else bd (fX1_b N l_b x5) (fun u_522 => bd (fX1_a N l_a x5) (fun u_524 => nm ((x3 * u_522) + (x4 * (-u_524))) (fun x8_526 => if x8_526 ≤ 0 then fX3_hasBound_b65 N l_a l_b l_n r_s x2 u_522 (-u_524) x8_526 x5 (fun (x5_528 : Int32) => fX3_hasBound_b3 N l_a l_b l_n r_s x2 x3 x4 k_97 n x5_528) else rd r_s 46 x2 (fun v_529 => bd (fX1_staysIn N l_a l_b l_n v_529 u_522 (-u_524)) (fun u_530 => if u_530 = 0 then fX3_hasBound_b65 N l_a l_b l_n r_s x2 u_522 (-u_524) x8_526 x5 (fun (x5_533 : Int32) => fX3_hasBound_b3 N l_a l_b l_n r_s x2 x3 x4 k_97 n x5_533) else zo 0 (some 0)))))))
def fX3_hasBound (N : Nat) (l_a : Nat → Int32) (l_b : Nat → Int32) (l_n : Int32) (r_s : Nat → Int32) (x2 : Int32) (x3 : Int32) (x4 : Int32) : Option (Int32) := fX3_hasBound_b3 N l_a l_b l_n r_s x2 x3 x4 (rd r_s 46 x2 (fun v_534 => bd (fX1_staysIn N l_a l_b l_n v_534 x3 x4) (fun u_535 => if u_535 = 0 then zo 1 (some 1) else zo 0 (some 0)))) N 0
set_option maxHeartbeats 4000000 in
set_option maxRecDepth 100000 in
theorem kX3_hasBound {l : Launch} {G : wG} (r0 r1 r2 r3 l0 l1 l2 l3 : Nat) (l_a : Nat → Int32) (l_b : Nat → Int32) (l_c : Nat → Int32) (l_n : Int32) (r_s : Nat → Int32) (r_n : Nat → Int32) (r_w : Nat → Int32) (r_k : Int32) (x2 : Int32) (x3 : Int32) (x4 : Int32) (N : Nat) (v : Int32) (h : fX3_hasBound N l_a l_b l_n r_s x2 x3 x4 = some v) : wCi l G yX3_hasBound wsX3_hasBound ({ frames := 3, cells := 0, slots := 0, locals := 66 } : Room) [.ref r0, .ref l0, .int x2, .int x3, .int x4] (w_RL G r0 r1 r2 r3 l0 l1 l2 l3 l_a l_b l_c l_n r_s r_n r_w r_k) (w_RL G r0 r1 r2 r3 l0 l1 l2 l3 l_a l_b l_c l_n r_s r_n r_w r_k) 0 0 v := by
  refine wCi.mk (cc := cX3_hasBound) (maxL := 9) (ty := .boolean) (by decide) rfl (Nat.le_of_ble_eq_true rfl) ?_
  intro p e s m below meth c A ls hx hb hml hr hlocks hts hown hK hA hP hD hl
  have hx : p.tables.exec = Jvm.exec := hx
  have hown : s.vm.findClass RX3 = some m.cls := hown
  have hinX3 : ∀ w ∈ wsX30, w ∈ wsX3_hasBound := by decide +kernel
  have lk9 := hts (.fieldLink RX3 9 "Chamberwright$Rooms" "sets" "[I") (by decide +kernel)
  have hS : va_S A s.heap s.heap [] := va_S.rf
  have hP : va_P G.1 vwCl (w_RL G r0 r1 r2 r3 l0 l1 l2 l3 l_a l_b l_c l_n r_s r_n r_w r_k) s.heap := hP
  have hD : va_D A (w_RL G r0 r1 r2 r3 l0 l1 l2 l3 l_a l_b l_c l_n r_s r_n r_w r_k) := hD
  have hl : lv_has ls 9 [(0, .ref r0), (1, .ref l0), (2, .int x2), (3, .int x3), (4, .int x4)] := hl
  obtain ⟨args, hargs⟩ : ∃ z : Array Value, z = ([.ref r0, .ref l0, .int x2, .int x3, .int x4] : List Value).toArray := ⟨_, rfl⟩
  rw [← hargs]
  rw [← hargs] at hts
  have w_65 : ∀ (k_3 : Int32 → Option (Int32)) (x2 : Int32) (x3 : Int32) (x4 : Int32) (x5 : Int32) (x6 : Int32) (x7 : Int32) (x8 : Int32)   (H : Heap) (locs : List Loc) (ls : Array Slot), (∀ (y5 : Int32) (H : Heap) (locs : List Loc) (ls : Array Slot), va_P G.1 vwCl (w_RL G r0 r1 r2 r3 l0 l1 l2 l3 l_a l_b l_c l_n r_s r_n r_w r_k) H → va_D A (w_RL G r0 r1 r2 r3 l0 l1 l2 l3 l_a l_b l_c l_n r_s r_n r_w r_k) → va_S A s.heap H locs → lv_has ls 9 [(0, .ref r0), (1, .ref l0), (2, .int x2), (3, .int x3), (4, .int x4), (5, .int y5)] → k_3 y5 = some v → W p l e ({ frames := 3, cells := 0, slots := 0, locals := 66 } : Room) s m args below meth c H locs 0 0 (wQi G A below args s (w_RL G r0 r1 r2 r3 l0 l1 l2 l3 l_a l_b l_c l_n r_s r_n r_w r_k) 0 0 v) (F0 m 3 ls [])) → va_P G.1 vwCl (w_RL G r0 r1 r2 r3 l0 l1 l2 l3 l_a l_b l_c l_n r_s r_n r_w r_k) H → va_D A (w_RL G r0 r1 r2 r3 l0 l1 l2 l3 l_a l_b l_c l_n r_s r_n r_w r_k) → va_S A s.heap H locs → lv_has ls 9 [(0, .ref r0), (1, .ref l0), (2, .int x2), (3, .int x3), (4, .int x4), (5, .int x5), (6, .int x6), (7, .int x7), (8, .int x8)] → fX3_hasBound_b65 N l_a l_b l_n r_s x2 x6 x7 x8 x5 k_3 = some v → W p l e ({ frames := 3, cells := 0, slots := 0, locals := 66 } : Room) s m args below meth c H locs 0 0 (wQi G A below args s (w_RL G r0 r1 r2 r3 l0 l1 l2 l3 l_a l_b l_c l_n r_s r_n r_w r_k) 0 0 v) (F0 m 65 ls []) := by
    intro k_3 x2 x3 x4 x5 x6 x7 x8 H locs ls hk_3 hP hD hS hl h
    rw [fX3_hasBound_b65.eq_1] at h
    refine lv_iload hx hb dX3_hasBound_65 (lv_at hl 8 rfl) ?_
    refine lv_if_ge (tgt := 91) hx hb dX3_hasBound_67 (by decide) (fun c_514 => ?_) (fun c_514 => ?_)
    · have h := ip c_514 h
      refine lv_iinc (v := (x5 + 1)) (lv' := [(5, .int (x5 + 1)), (0, .ref r0), (1, .ref l0), (2, .int x2), (3, .int x3), (4, .int x4), (6, .int x6), (7, .int x7), (8, .int x8)]) hx hb dX3_hasBound_91 hl (k := 5) rfl rfl (by decide) rfl (fun ls hl => ?_)
      refine lv_goto (tgt := 3) hx hb dX3_hasBound_94 (by decide) ?_
      exact hk_3 _ _ _ _ hP hD hS (lv_sub hl [1, 2, 3, 4, 5, 0] rfl) h
    · have h := iq c_514 h
      refine lv_aload_n hx hb dX3_hasBound_70 rfl (lv_at hl 1 rfl) ?_
      refine lv_aload_n hx hb dX3_hasBound_71 rfl (lv_at hl 0 rfl) ?_
      refine va_get (D := G.1) (ci := 3) (v := .ref r1) (C := RX3) (T := TX3) (N := 4) hx hb hts hinX3 hown hK.1 hP 0 rfl rfl 0 (by decide) lk9 (fun _ h9 => h9) rfl dX3_hasBound_72 ?_
      refine lv_iload_n hx hb dX3_hasBound_75 rfl (lv_at hl 2 rfl) ?_
      refine wiald h hx hb hK hP 1 rfl dX3_hasBound_76 (fun v_515 h => ?_)
      refine lv_iload hx hb dX3_hasBound_77 (lv_at hl 6 rfl) ?_
      refine lv_ineg hx hb dX3_hasBound_79 ?_
      refine lv_iload hx hb dX3_hasBound_80 (lv_at hl 7 rfl) ?_
      refine lv_ineg hx hb dX3_hasBound_82 ?_
      obtain ⟨u_516, hc_517, h⟩ := bd_inv h
      refine wafter_i (wr := [(r0, .inr (3, [.ref r1, .ref r2, .ref r3, .int r_k])), (r1, .inl (G.2.1, 46, .inl r_s)), (r2, .inl (G.2.1, 512, .inl r_n)), (r3, .inl (G.2.1, 512, .inl r_w))]) (w2 := (w_RL G r0 r1 r2 r3 l0 l1 l2 l3 l_a l_b l_c l_n r_s r_n r_w r_k)) (va_runV (As := [.int v_515, .int (-x6), .int (-x7)]) (rest := []) ⟨hx, hb, hml, hown, hts⟩ (kX1_staysIn (l := l) (G := G) l0 l1 l2 l3 l_a l_b l_c l_n v_515 (-x6) (-x7) N u_516 hc_517 _) (cwV 3 hts gX3_hasBound_X1_staysIn rfl rfl rfl (by decide +kernel) ⟨Nat.le_of_ble_eq_true rfl, Nat.le_of_ble_eq_true rfl⟩) (wPreV hP hD hK [4, 5, 6, 7] rfl rfl (ci := 1) (qb := 4) rfl rfl rfl) rfl rfl hl.1 rfl (lv_room (Nat.le_of_ble_eq_true rfl)) dX3_hasBound_83 ⟨Nat.zero_le _, Nat.zero_le _⟩) hP hD hS hA [4, 5, 6, 7] [0, 1, 2, 3] [0, 1, 2, 3, 4, 5, 6, 7] rfl rfl rfl (by decide) rfl rfl (fun H locs hP hD hS => ?_)
      refine lv_if_eq (tgt := 91) hx hb dX3_hasBound_86 (by decide) (fun c_518 => ?_) (fun c_518 => ?_)
      · have h := ip c_518 h
        refine lv_iinc (v := (x5 + 1)) (lv' := [(5, .int (x5 + 1)), (0, .ref r0), (1, .ref l0), (2, .int x2), (3, .int x3), (4, .int x4), (6, .int x6), (7, .int x7), (8, .int x8)]) hx hb dX3_hasBound_91 hl (k := 5) rfl rfl (by decide) rfl (fun ls hl => ?_)
        refine lv_goto (tgt := 3) hx hb dX3_hasBound_94 (by decide) ?_
        exact hk_3 _ _ _ _ hP hD hS (lv_sub hl [1, 2, 3, 4, 5, 0] rfl) h
      · have h := iq c_518 h
        refine lv_iconst (v := 0) hx hb dX3_hasBound_89 (by decide) ?_
        obtain ⟨hz, h⟩ := zo_inv h
        obtain rfl := Option.some.inj h
        exact wrz hx hb hr hlocks hP hD hS (Nat.le_of_ble_eq_true rfl) (Nat.le_of_ble_eq_true rfl) hz rfl dX3_hasBound_90
  have w_3 : ∀ (k_97 : Option (Int32)) (x2 : Int32) (x3 : Int32) (x4 : Int32)  (_z : Unit), (∀  (H : Heap) (locs : List Loc) (ls : Array Slot), va_P G.1 vwCl (w_RL G r0 r1 r2 r3 l0 l1 l2 l3 l_a l_b l_c l_n r_s r_n r_w r_k) H → va_D A (w_RL G r0 r1 r2 r3 l0 l1 l2 l3 l_a l_b l_c l_n r_s r_n r_w r_k) → va_S A s.heap H locs → lv_has ls 9 [(0, .ref r0), (1, .ref l0), (2, .int x2), (3, .int x3), (4, .int x4)] → k_97 = some v → W p l e ({ frames := 3, cells := 0, slots := 0, locals := 66 } : Room) s m args below meth c H locs 0 0 (wQi G A below args s (w_RL G r0 r1 r2 r3 l0 l1 l2 l3 l_a l_b l_c l_n r_s r_n r_w r_k) 0 0 v) (F0 m 97 ls [])) → ∀ (n : Nat) (x5 : Int32)  (H : Heap) (locs : List Loc) (ls : Array Slot), va_P G.1 vwCl (w_RL G r0 r1 r2 r3 l0 l1 l2 l3 l_a l_b l_c l_n r_s r_n r_w r_k) H → va_D A (w_RL G r0 r1 r2 r3 l0 l1 l2 l3 l_a l_b l_c l_n r_s r_n r_w r_k) → va_S A s.heap H locs → lv_has ls 9 [(0, .ref r0), (1, .ref l0), (2, .int x2), (3, .int x3), (4, .int x4), (5, .int x5)] → fX3_hasBound_b3 N l_a l_b l_n r_s x2 x3 x4 k_97 n x5 = some v → W p l e ({ frames := 3, cells := 0, slots := 0, locals := 66 } : Room) s m args below meth c H locs 0 0 (wQi G A below args s (w_RL G r0 r1 r2 r3 l0 l1 l2 l3 l_a l_b l_c l_n r_s r_n r_w r_k) 0 0 v) (F0 m 3 ls []) := by
    intro k_97 x2 x3 x4 _z hk_97 n
    induction n with
    | zero =>
      intro x5 H locs ls hP hD hS hl h
      rw [fX3_hasBound_b3.eq_1] at h
      cases h
    | succ n ih =>
      intro x5 H locs ls hP hD hS hl h
      rw [fX3_hasBound_b3.eq_2] at h
      refine lv_iload hx hb dX3_hasBound_3 (lv_at hl 5 rfl) ?_
      refine lv_aload_n hx hb dX3_hasBound_5 rfl (lv_at hl 1 rfl) ?_
      obtain ⟨u_519, hc_520, h⟩ := bd_inv h
      refine wafter_i (wr := [(r0, .inr (3, [.ref r1, .ref r2, .ref r3, .int r_k])), (r1, .inl (G.2.1, 46, .inl r_s)), (r2, .inl (G.2.1, 512, .inl r_n)), (r3, .inl (G.2.1, 512, .inl r_w))]) (w2 := (w_RL G r0 r1 r2 r3 l0 l1 l2 l3 l_a l_b l_c l_n r_s r_n r_w r_k)) (va_runV (As := []) (rest := [.int x5]) ⟨hx, hb, hml, hown, hts⟩ (kX1_count (l := l) (G := G) l0 l1 l2 l3 l_a l_b l_c l_n  N u_519 hc_520 _) (cwV 0 hts gX3_hasBound_X1_count rfl rfl rfl (by decide +kernel) ⟨Nat.le_of_ble_eq_true rfl, Nat.le_of_ble_eq_true rfl⟩) (wPreV hP hD hK [4, 5, 6, 7] rfl rfl (ci := 1) (qb := 4) rfl rfl rfl) rfl rfl hl.1 rfl (lv_room (Nat.le_of_ble_eq_true rfl)) dX3_hasBound_6 ⟨Nat.zero_le _, Nat.zero_le _⟩) hP hD hS hA [4, 5, 6, 7] [0, 1, 2, 3] [0, 1, 2, 3, 4, 5, 6, 7] rfl rfl rfl (by decide) rfl rfl (fun H locs hP hD hS => ?_)
      refine lv_icmp_ge (tgt := 97) hx hb dX3_hasBound_9 (by decide) (fun c_521 => ?_) (fun c_521 => ?_)
      · have h := ip c_521 h
        exact hk_97  _ _ _ hP hD hS (lv_sub hl [0, 1, 2, 3, 4] rfl) h
      · have h := iq c_521 h
        refine lv_aload_n hx hb dX3_hasBound_12 rfl (lv_at hl 1 rfl) ?_
        refine lv_iload hx hb dX3_hasBound_13 (lv_at hl 5 rfl) ?_
        obtain ⟨u_522, hc_523, h⟩ := bd_inv h
        refine wafter_i (wr := [(r0, .inr (3, [.ref r1, .ref r2, .ref r3, .int r_k])), (r1, .inl (G.2.1, 46, .inl r_s)), (r2, .inl (G.2.1, 512, .inl r_n)), (r3, .inl (G.2.1, 512, .inl r_w))]) (w2 := (w_RL G r0 r1 r2 r3 l0 l1 l2 l3 l_a l_b l_c l_n r_s r_n r_w r_k)) (va_runV (As := [.int x5]) (rest := []) ⟨hx, hb, hml, hown, hts⟩ (kX1_b (l := l) (G := G) l0 l1 l2 l3 l_a l_b l_c l_n x5 N u_522 hc_523 _) (cwV 1 hts gX3_hasBound_X1_b rfl rfl rfl (by decide +kernel) ⟨Nat.le_of_ble_eq_true rfl, Nat.le_of_ble_eq_true rfl⟩) (wPreV hP hD hK [4, 5, 6, 7] rfl rfl (ci := 1) (qb := 4) rfl rfl rfl) rfl rfl hl.1 rfl (lv_room (Nat.le_of_ble_eq_true rfl)) dX3_hasBound_15 ⟨Nat.zero_le _, Nat.zero_le _⟩) hP hD hS hA [4, 5, 6, 7] [0, 1, 2, 3] [0, 1, 2, 3, 4, 5, 6, 7] rfl rfl rfl (by decide) rfl rfl (fun H locs hP hD hS => ?_)
        refine lv_istore (lv' := [(6, .int u_522), (0, .ref r0), (1, .ref l0), (2, .int x2), (3, .int x3), (4, .int x4), (5, .int x5)]) hx hb dX3_hasBound_18 hl (by decide) rfl (fun ls hl => ?_)
        refine lv_aload_n hx hb dX3_hasBound_20 rfl (lv_at hl 2 rfl) ?_
        refine lv_iload hx hb dX3_hasBound_21 (lv_at hl 6 rfl) ?_
        obtain ⟨u_524, hc_525, h⟩ := bd_inv h
        refine wafter_i (wr := [(r0, .inr (3, [.ref r1, .ref r2, .ref r3, .int r_k])), (r1, .inl (G.2.1, 46, .inl r_s)), (r2, .inl (G.2.1, 512, .inl r_n)), (r3, .inl (G.2.1, 512, .inl r_w))]) (w2 := (w_RL G r0 r1 r2 r3 l0 l1 l2 l3 l_a l_b l_c l_n r_s r_n r_w r_k)) (va_runV (As := [.int x5]) (rest := []) ⟨hx, hb, hml, hown, hts⟩ (kX1_a (l := l) (G := G) l0 l1 l2 l3 l_a l_b l_c l_n x5 N u_524 hc_525 _) (cwV 1 hts gX3_hasBound_X1_a rfl rfl rfl (by decide +kernel) ⟨Nat.le_of_ble_eq_true rfl, Nat.le_of_ble_eq_true rfl⟩) (wPreV hP hD hK [4, 5, 6, 7] rfl rfl (ci := 1) (qb := 4) rfl rfl rfl) rfl rfl hl.1 rfl (lv_room (Nat.le_of_ble_eq_true rfl)) dX3_hasBound_23 ⟨Nat.zero_le _, Nat.zero_le _⟩) hP hD hS hA [4, 5, 6, 7] [0, 1, 2, 3] [0, 1, 2, 3, 4, 5, 6, 7] rfl rfl rfl (by decide) rfl rfl (fun H locs hP hD hS => ?_)
        refine lv_ineg hx hb dX3_hasBound_26 ?_
        refine lv_istore (lv' := [(7, .int (-u_524)), (6, .int u_522), (0, .ref r0), (1, .ref l0), (2, .int x2), (3, .int x3), (4, .int x4), (5, .int x5)]) hx hb dX3_hasBound_27 hl (by decide) rfl (fun ls hl => ?_)
        refine lv_iload_n hx hb dX3_hasBound_29 rfl (lv_at hl 5 rfl) ?_
        refine lv_iload hx hb dX3_hasBound_30 (lv_at hl 1 rfl) ?_
        refine lv_imul hx hb dX3_hasBound_32 ?_
        refine lv_iload hx hb dX3_hasBound_33 (lv_at hl 6 rfl) ?_
        refine lv_iload hx hb dX3_hasBound_35 (lv_at hl 0 rfl) ?_
        refine lv_imul hx hb dX3_hasBound_37 ?_
        refine lv_iadd hx hb dX3_hasBound_38 ?_
        refine wnmi h (fun x8_526 h => ?_)
        refine lv_istore (lv' := [(8, .int x8_526), (7, .int (-u_524)), (6, .int u_522), (0, .ref r0), (1, .ref l0), (2, .int x2), (3, .int x3), (4, .int x4), (5, .int x5)]) hx hb dX3_hasBound_39 hl (by decide) rfl (fun ls hl => ?_)
        refine lv_iload hx hb dX3_hasBound_41 (lv_at hl 0 rfl) ?_
        refine lv_if_le (tgt := 65) hx hb dX3_hasBound_43 (by decide) (fun c_527 => ?_) (fun c_527 => ?_)
        · have h := ip c_527 h
          refine w_65 _ _ _ _ _ _ _ _   _ _ _ (fun x5_528 H locs ls hP hD hS hl h => ?_) hP hD hS (lv_sub hl [3, 4, 5, 6, 7, 8, 2, 1, 0] rfl) h
          exact ih _ _ _ _ hP hD hS (lv_sub hl [0, 1, 2, 3, 4, 5] rfl) h
        · have h := iq c_527 h
          refine lv_aload_n hx hb dX3_hasBound_46 rfl (lv_at hl 4 rfl) ?_
          refine lv_aload_n hx hb dX3_hasBound_47 rfl (lv_at hl 3 rfl) ?_
          refine va_get (D := G.1) (ci := 3) (v := .ref r1) (C := RX3) (T := TX3) (N := 4) hx hb hts hinX3 hown hK.1 hP 0 rfl rfl 0 (by decide) lk9 (fun _ h9 => h9) rfl dX3_hasBound_48 ?_
          refine lv_iload_n hx hb dX3_hasBound_51 rfl (lv_at hl 5 rfl) ?_
          refine wiald h hx hb hK hP 1 rfl dX3_hasBound_52 (fun v_529 h => ?_)
          refine lv_iload hx hb dX3_hasBound_53 (lv_at hl 2 rfl) ?_
          refine lv_iload hx hb dX3_hasBound_55 (lv_at hl 1 rfl) ?_
          obtain ⟨u_530, hc_531, h⟩ := bd_inv h
          refine wafter_i (wr := [(r0, .inr (3, [.ref r1, .ref r2, .ref r3, .int r_k])), (r1, .inl (G.2.1, 46, .inl r_s)), (r2, .inl (G.2.1, 512, .inl r_n)), (r3, .inl (G.2.1, 512, .inl r_w))]) (w2 := (w_RL G r0 r1 r2 r3 l0 l1 l2 l3 l_a l_b l_c l_n r_s r_n r_w r_k)) (va_runV (As := [.int v_529, .int u_522, .int (-u_524)]) (rest := []) ⟨hx, hb, hml, hown, hts⟩ (kX1_staysIn (l := l) (G := G) l0 l1 l2 l3 l_a l_b l_c l_n v_529 u_522 (-u_524) N u_530 hc_531 _) (cwV 3 hts gX3_hasBound_X1_staysIn rfl rfl rfl (by decide +kernel) ⟨Nat.le_of_ble_eq_true rfl, Nat.le_of_ble_eq_true rfl⟩) (wPreV hP hD hK [4, 5, 6, 7] rfl rfl (ci := 1) (qb := 4) rfl rfl rfl) rfl rfl hl.1 rfl (lv_room (Nat.le_of_ble_eq_true rfl)) dX3_hasBound_57 ⟨Nat.zero_le _, Nat.zero_le _⟩) hP hD hS hA [4, 5, 6, 7] [0, 1, 2, 3] [0, 1, 2, 3, 4, 5, 6, 7] rfl rfl rfl (by decide) rfl rfl (fun H locs hP hD hS => ?_)
          refine lv_if_eq (tgt := 65) hx hb dX3_hasBound_60 (by decide) (fun c_532 => ?_) (fun c_532 => ?_)
          · have h := ip c_532 h
            refine w_65 _ _ _ _ _ _ _ _   _ _ _ (fun x5_533 H locs ls hP hD hS hl h => ?_) hP hD hS (lv_sub hl [3, 4, 5, 6, 7, 8, 2, 1, 0] rfl) h
            exact ih _ _ _ _ hP hD hS (lv_sub hl [0, 1, 2, 3, 4, 5] rfl) h
          · have h := iq c_532 h
            refine lv_iconst (v := 0) hx hb dX3_hasBound_63 (by decide) ?_
            obtain ⟨hz, h⟩ := zo_inv h
            obtain rfl := Option.some.inj h
            exact wrz hx hb hr hlocks hP hD hS (Nat.le_of_ble_eq_true rfl) (Nat.le_of_ble_eq_true rfl) hz rfl dX3_hasBound_64
  rw [fX3_hasBound.eq_1] at h
  refine lv_iconst (v := 0) hx hb dX3_hasBound_0 (by decide) ?_
  refine lv_istore (lv' := [(5, .int 0), (0, .ref r0), (1, .ref l0), (2, .int x2), (3, .int x3), (4, .int x4)]) hx hb dX3_hasBound_1 hl (by decide) rfl (fun ls hl => ?_)
  refine w_3 _ _ _ _  () (fun  H locs ls hP hD hS hl h => ?_) N _  _ _ _ hP hD hS (lv_sub hl [1, 2, 3, 4, 5, 0] rfl) h
  refine lv_aload_n hx hb dX3_hasBound_97 rfl (lv_at hl 1 rfl) ?_
  refine lv_aload_n hx hb dX3_hasBound_98 rfl (lv_at hl 0 rfl) ?_
  refine va_get (D := G.1) (ci := 3) (v := .ref r1) (C := RX3) (T := TX3) (N := 4) hx hb hts hinX3 hown hK.1 hP 0 rfl rfl 0 (by decide) lk9 (fun _ h9 => h9) rfl dX3_hasBound_99 ?_
  refine lv_iload_n hx hb dX3_hasBound_102 rfl (lv_at hl 2 rfl) ?_
  refine wiald h hx hb hK hP 1 rfl dX3_hasBound_103 (fun v_534 h => ?_)
  refine lv_iload_n hx hb dX3_hasBound_104 rfl (lv_at hl 3 rfl) ?_
  refine lv_iload hx hb dX3_hasBound_105 (lv_at hl 4 rfl) ?_
  obtain ⟨u_535, hc_536, h⟩ := bd_inv h
  refine wafter_i (wr := [(r0, .inr (3, [.ref r1, .ref r2, .ref r3, .int r_k])), (r1, .inl (G.2.1, 46, .inl r_s)), (r2, .inl (G.2.1, 512, .inl r_n)), (r3, .inl (G.2.1, 512, .inl r_w))]) (w2 := (w_RL G r0 r1 r2 r3 l0 l1 l2 l3 l_a l_b l_c l_n r_s r_n r_w r_k)) (va_runV (As := [.int v_534, .int x3, .int x4]) (rest := []) ⟨hx, hb, hml, hown, hts⟩ (kX1_staysIn (l := l) (G := G) l0 l1 l2 l3 l_a l_b l_c l_n v_534 x3 x4 N u_535 hc_536 _) (cwV 3 hts gX3_hasBound_X1_staysIn rfl rfl rfl (by decide +kernel) ⟨Nat.le_of_ble_eq_true rfl, Nat.le_of_ble_eq_true rfl⟩) (wPreV hP hD hK [4, 5, 6, 7] rfl rfl (ci := 1) (qb := 4) rfl rfl rfl) rfl rfl hl.1 rfl (lv_room (Nat.le_of_ble_eq_true rfl)) dX3_hasBound_107 ⟨Nat.zero_le _, Nat.zero_le _⟩) hP hD hS hA [4, 5, 6, 7] [0, 1, 2, 3] [0, 1, 2, 3, 4, 5, 6, 7] rfl rfl rfl (by decide) rfl rfl (fun H locs hP hD hS => ?_)
  refine lv_if_ne (tgt := 117) hx hb dX3_hasBound_110 (by decide) (fun c_537 => ?_) (fun c_537 => ?_)
  · have h := iq c_537 h
    refine lv_iconst (v := 0) hx hb dX3_hasBound_117 (by decide) ?_
    obtain ⟨hz, h⟩ := zo_inv h
    obtain rfl := Option.some.inj h
    exact wrz hx hb hr hlocks hP hD hS (Nat.le_of_ble_eq_true rfl) (Nat.le_of_ble_eq_true rfl) hz rfl dX3_hasBound_118
  · have h := ip c_537 h
    refine lv_iconst (v := 1) hx hb dX3_hasBound_113 (by decide) ?_
    refine lv_goto (tgt := 118) hx hb dX3_hasBound_114 (by decide) ?_
    obtain ⟨hz, h⟩ := zo_inv h
    obtain rfl := Option.some.inj h
    exact wrz hx hb hr hlocks hP hD hS (Nat.le_of_ble_eq_true rfl) (Nat.le_of_ble_eq_true rfl) hz rfl dX3_hasBound_118
