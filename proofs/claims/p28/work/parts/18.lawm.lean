def fL_low (N : Nat) (x0 : Int32) (x1 : Int32) : Option (Int32) := nz x1 (some (((x0 &&& 2147483647) - (x0 &&& 2147483647) / x1 * x1)))
set_option maxHeartbeats 4000000 in
set_option maxRecDepth 100000 in
theorem kL_low {l : Launch} {G : wG} (x0 : Int32) (x1 : Int32) (N : Nat) (v : Int32) (h : fL_low N x0 x1 = some v) : wCi l G yL_low wsL_low ({ frames := 0, cells := 0, slots := 0, locals := 0 } : Room) [.int x0, .int x1] [] [] 0 0 v := by
  refine wCi.mk (cc := cL_low) (maxL := 2) (ty := .int) (by decide) rfl (Nat.le_of_ble_eq_true rfl) ?_
  intro p e s m below meth c A ls hx hb hml hr hlocks hts hown hK hA hP hD hl
  have hx : p.tables.exec = Jvm.exec := hx
  have hown : s.vm.findClass RL = some m.cls := hown
  have hS : va_S A s.heap s.heap [] := va_S.rf
  have hP : va_P G.1 vwCl [] s.heap := hP
  have hD : va_D A [] := hD
  have hl : lv_has ls 2 [(0, .int x0), (1, .int x1)] := hl
  obtain ⟨args, hargs⟩ : ∃ z : Array Value, z = ([.int x0, .int x1] : List Value).toArray := ⟨_, rfl⟩
  rw [← hargs]
  rw [← hargs] at hts
  rw [fL_low.eq_1] at h
  refine lv_iload_n hx hb dL_low_0 rfl (lv_at hl 0 rfl) ?_
  refine lv_ldc (v := 2147483647) hx hb hown (hts (.constant RL 9 (2147483647)) (by decide +kernel)) dL_low_1 ?_
  refine lv_iand hx hb dL_low_3 ?_
  refine lv_iload_n hx hb dL_low_4 rfl (lv_at hl 1 rfl) ?_
  obtain ⟨hz, h⟩ := nz_inv h
  refine lv_irem hx hb dL_low_5 hz ?_
  obtain rfl := Option.some.inj h
  exact wri hx hb hr hlocks hP hD hS (Nat.le_of_ble_eq_true rfl) (Nat.le_of_ble_eq_true rfl) rfl dL_low_6
def fL_size_b4 (N : Nat) : Nat → Int32 → Int32 → Option (Int32)
  | 0, _, _ => none
  | n + 1, x1, x2 => if x2 ≤ 0 then some x1 else fL_size_b4 N n (x1 + (x2 &&& 1)) (x2 >>> (1 &&& 31))
def fL_size (N : Nat) (x0 : Int32) : Option (Int32) := fL_size_b4 N N 0 x0
set_option maxHeartbeats 4000000 in
set_option maxRecDepth 100000 in
theorem kL_size {l : Launch} {G : wG} (x0 : Int32) (N : Nat) (v : Int32) (h : fL_size N x0 = some v) : wCi l G yL_size wsL_size ({ frames := 0, cells := 0, slots := 0, locals := 0 } : Room) [.int x0] [] [] 0 0 v := by
  refine wCi.mk (cc := cL_size) (maxL := 3) (ty := .int) (by decide) rfl (Nat.le_of_ble_eq_true rfl) ?_
  intro p e s m below meth c A ls hx hb hml hr hlocks hts hown hK hA hP hD hl
  have hx : p.tables.exec = Jvm.exec := hx
  have hown : s.vm.findClass RL = some m.cls := hown
  have hS : va_S A s.heap s.heap [] := va_S.rf
  have hP : va_P G.1 vwCl [] s.heap := hP
  have hD : va_D A [] := hD
  have hl : lv_has ls 3 [(0, .int x0)] := hl
  obtain ⟨args, hargs⟩ : ∃ z : Array Value, z = ([.int x0] : List Value).toArray := ⟨_, rfl⟩
  rw [← hargs]
  rw [← hargs] at hts
  have w_4 : ∀   (_z : Unit), ∀ (n : Nat) (x1 : Int32) (x2 : Int32)  (H : Heap) (locs : List Loc) (ls : Array Slot), va_P G.1 vwCl [] H → va_D A [] → va_S A s.heap H locs → lv_has ls 3 [(1, .int x1), (2, .int x2)] → fL_size_b4 N n x1 x2 = some v → W p l e ({ frames := 0, cells := 0, slots := 0, locals := 0 } : Room) s m args below meth c H locs 0 0 (wQi G A below args s [] 0 0 v) (F0 m 4 ls []) := by
    intro _z n
    induction n with
    | zero =>
      intro x1 x2 H locs ls hP hD hS hl h
      rw [fL_size_b4.eq_1] at h
      cases h
    | succ n ih =>
      intro x1 x2 H locs ls hP hD hS hl h
      rw [fL_size_b4.eq_2] at h
      refine lv_iload_n hx hb dL_size_4 rfl (lv_at hl 1 rfl) ?_
      refine lv_if_le (tgt := 21) hx hb dL_size_5 (by decide) (fun c_776 => ?_) (fun c_776 => ?_)
      · have h := ip c_776 h
        refine lv_iload_n hx hb dL_size_21 rfl (lv_at hl 0 rfl) ?_
        obtain rfl := Option.some.inj h
        exact wri hx hb hr hlocks hP hD hS (Nat.le_of_ble_eq_true rfl) (Nat.le_of_ble_eq_true rfl) rfl dL_size_22
      · have h := iq c_776 h
        refine lv_iload_n hx hb dL_size_8 rfl (lv_at hl 0 rfl) ?_
        refine lv_iload_n hx hb dL_size_9 rfl (lv_at hl 1 rfl) ?_
        refine lv_iconst (v := 1) hx hb dL_size_10 (by decide) ?_
        refine lv_iand hx hb dL_size_11 ?_
        refine lv_iadd hx hb dL_size_12 ?_
        refine lv_istore_n (lv' := [(1, .int (x1 + (x2 &&& 1))), (2, .int x2)]) hx hb dL_size_13 rfl hl (by decide) rfl (fun ls hl => ?_)
        refine lv_iload_n hx hb dL_size_14 rfl (lv_at hl 1 rfl) ?_
        refine lv_iconst (v := 1) hx hb dL_size_15 (by decide) ?_
        refine lv_ishr hx hb dL_size_16 ?_
        refine lv_istore_n (lv' := [(2, .int (x2 >>> (1 &&& 31))), (1, .int (x1 + (x2 &&& 1)))]) hx hb dL_size_17 rfl hl (by decide) rfl (fun ls hl => ?_)
        refine lv_goto (tgt := 4) hx hb dL_size_18 (by decide) ?_
        exact ih _ _ _ _ _ hP hD hS (lv_sub hl [1, 0] rfl) h
  rw [fL_size.eq_1] at h
  refine lv_iconst (v := 0) hx hb dL_size_0 (by decide) ?_
  refine lv_istore_n (lv' := [(1, .int 0), (0, .int x0)]) hx hb dL_size_1 rfl hl (by decide) rfl (fun ls hl => ?_)
  refine lv_iload_n hx hb dL_size_2 rfl (lv_at hl 1 rfl) ?_
  refine lv_istore_n (lv' := [(2, .int x0), (1, .int 0), (0, .int x0)]) hx hb dL_size_3 rfl hl (by decide) rfl (fun ls hl => ?_)
  exact w_4    ()  N _ _  _ _ _ hP hD hS (lv_sub hl [1, 0] rfl) h
def fL_counts_b117 (N : Nat) (l_n : Int32) (m_t : Nat → Int32) (m_n : Int32) (x2 : Int32) (s0 : Int32) (s1 : Int32) : Option (Int32) := if (s0 &&& s1) = 0 then zo 0 (some 0) else if x2 = 0 then zo 1 (some 1) else bdn (fX4_pair N l_n m_t m_n (x2 - 1)) (fun u_779 => bd (fL_size N u_779) (fun u_781 => if u_781 = 2 then zo 1 (some 1) else zo 0 (some 0)))
def fL_counts_b92 (N : Nat) (l_n : Int32) (m_t : Nat → Int32) (m_n : Int32) (x2 : Int32) (s0 : Int32) (s1 : Int32) (s2 : Int32) (k_117 : Int32 → Int32 → Option (Int32)) : Option (Int32) := if s1 = s2 then bd (fX4_pairs N l_n m_t m_n) (fun u_785 => if u_785 = x2 then bdn (fX4_pair N l_n m_t m_n x2) (fun u_788 => if u_788 = (-1) then k_117 s0 1 else k_117 s0 0) else k_117 s0 0) else k_117 s0 0
def fL_counts_b58 (N : Nat) (l_a : Nat → Int32) (l_b : Nat → Int32) (l_n : Int32) (m_t : Nat → Int32) (m_n : Int32) (r_s : Nat → Int32) (r_k : Int32) (x1 : Int32) (x2 : Int32) (s0 : Int32) : Option (Int32) := bd (fX4_rooms N r_k) (fun u_791 => if u_791 = ((1 + x1) + x2) then bd (fX4_bounded N l_a l_b l_n r_s r_k) (fun u_794 => bd (fX4_meets N m_n) (fun u_796 => if u_796 = 0 then fL_counts_b92 N l_n m_t m_n x2 s0 u_794 0 (fun (s_801 : Int32) (s_802 : Int32) => fL_counts_b117 N l_n m_t m_n x2 s_801 s_802) else fL_counts_b92 N l_n m_t m_n x2 s0 u_794 ((1 - x1) + x2) (fun (s_799 : Int32) (s_800 : Int32) => fL_counts_b117 N l_n m_t m_n x2 s_799 s_800))) else fL_counts_b117 N l_n m_t m_n x2 s0 0)
def fL_counts (N : Nat) (l_a : Nat → Int32) (l_b : Nat → Int32) (l_c : Nat → Int32) (l_n : Int32) (m_t : Nat → Int32) (m_n : Int32) (r_s : Nat → Int32) (r_k : Int32) (x1 : Int32) : Option (Int32) := bdn (fX4_polynomial N l_n m_t m_n 0) (fun u_803 => bdn (fX4_polynomial N l_n m_t m_n 2) (fun u_805 => if u_805 = 1 then bdn (fX4_polynomial N l_n m_t m_n 1) (fun u_808 => if u_808 = (-x1) then bdn (fX4_polynomialAnew N l_a l_b l_c l_n 0) (fun u_811 => if u_811 = u_803 then bdn (fX4_polynomialAnew N l_a l_b l_c l_n 1) (fun u_814 => if u_814 = (-x1) then bdn (fX4_polynomialAnew N l_a l_b l_c l_n 2) (fun u_817 => if u_817 = 1 then fL_counts_b58 N l_a l_b l_n m_t m_n r_s r_k x1 u_803 1 else fL_counts_b58 N l_a l_b l_n m_t m_n r_s r_k x1 u_803 0) else fL_counts_b58 N l_a l_b l_n m_t m_n r_s r_k x1 u_803 0) else fL_counts_b58 N l_a l_b l_n m_t m_n r_s r_k x1 u_803 0) else fL_counts_b58 N l_a l_b l_n m_t m_n r_s r_k x1 u_803 0) else fL_counts_b58 N l_a l_b l_n m_t m_n r_s r_k x1 u_803 0))
set_option maxHeartbeats 4000000 in
set_option maxRecDepth 100000 in
theorem kL_counts {l : Launch} {G : wG} (c0 l0 l1 l2 l3 m0 m1 m2 m3 m4 m5 r0 r1 r2 r3 g0 : Nat) (g_e : Int64) (l_a : Nat → Int32) (l_b : Nat → Int32) (l_c : Nat → Int32) (l_n : Int32) (m_x : Nat → Int32) (m_y : Nat → Int32) (m_d : Nat → Int32) (m_t : Nat → Int32) (m_v : Nat → Int32) (m_n : Int32) (r_s : Nat → Int32) (r_n : Nat → Int32) (r_w : Nat → Int32) (r_k : Int32) (x1 : Int32) (N : Nat) (v : Int32) (h : fL_counts N l_a l_b l_c l_n m_t m_n r_s r_k x1 = some v) : wCi l G yL_counts wsL_counts ({ frames := 8, cells := 0, slots := 0, locals := 144 } : Room) [.ref c0, .int x1] (w_C G c0 l0 l1 l2 l3 m0 m1 m2 m3 m4 m5 r0 r1 r2 r3 g0 g_e l_a l_b l_c l_n m_x m_y m_d m_t m_v m_n r_s r_n r_w r_k) (w_C G c0 l0 l1 l2 l3 m0 m1 m2 m3 m4 m5 r0 r1 r2 r3 g0 g_e l_a l_b l_c l_n m_x m_y m_d m_t m_v m_n r_s r_n r_w r_k) 0 0 v := by
  refine wCi.mk (cc := cL_counts) (maxL := 4) (ty := .boolean) (by decide) rfl (Nat.le_of_ble_eq_true rfl) ?_
  intro p e s m below meth c A ls hx hb hml hr hlocks hts hown hK hA hP hD hl
  have hx : p.tables.exec = Jvm.exec := hx
  have hown : s.vm.findClass RL = some m.cls := hown
  have hS : va_S A s.heap s.heap [] := va_S.rf
  have hP : va_P G.1 vwCl (w_C G c0 l0 l1 l2 l3 m0 m1 m2 m3 m4 m5 r0 r1 r2 r3 g0 g_e l_a l_b l_c l_n m_x m_y m_d m_t m_v m_n r_s r_n r_w r_k) s.heap := hP
  have hD : va_D A (w_C G c0 l0 l1 l2 l3 m0 m1 m2 m3 m4 m5 r0 r1 r2 r3 g0 g_e l_a l_b l_c l_n m_x m_y m_d m_t m_v m_n r_s r_n r_w r_k) := hD
  have hl : lv_has ls 4 [(0, .ref c0), (1, .int x1)] := hl
  obtain ⟨args, hargs⟩ : ∃ z : Array Value, z = ([.ref c0, .int x1] : List Value).toArray := ⟨_, rfl⟩
  rw [← hargs]
  rw [← hargs] at hts
  have w_117 : ∀ (x2 : Int32)  (s0 : Int32) (s1 : Int32) (H : Heap) (locs : List Loc) (ls : Array Slot), va_P G.1 vwCl (w_C G c0 l0 l1 l2 l3 m0 m1 m2 m3 m4 m5 r0 r1 r2 r3 g0 g_e l_a l_b l_c l_n m_x m_y m_d m_t m_v m_n r_s r_n r_w r_k) H → va_D A (w_C G c0 l0 l1 l2 l3 m0 m1 m2 m3 m4 m5 r0 r1 r2 r3 g0 g_e l_a l_b l_c l_n m_x m_y m_d m_t m_v m_n r_s r_n r_w r_k) → va_S A s.heap H locs → lv_has ls 4 [(0, .ref c0), (2, .int x2)] → fL_counts_b117 N l_n m_t m_n x2 s0 s1 = some v → W p l e ({ frames := 8, cells := 0, slots := 0, locals := 144 } : Room) s m args below meth c H locs 0 0 (wQi G A below args s (w_C G c0 l0 l1 l2 l3 m0 m1 m2 m3 m4 m5 r0 r1 r2 r3 g0 g_e l_a l_b l_c l_n m_x m_y m_d m_t m_v m_n r_s r_n r_w r_k) 0 0 v) (F0 m 117 ls [.int s1, .int s0]) := by
    intro x2 s0 s1 H locs ls hP hD hS hl h
    rw [fL_counts_b117.eq_1] at h
    refine lv_iand hx hb dL_counts_117 ?_
    refine lv_istore_n (lv' := [(3, .int (s0 &&& s1)), (0, .ref c0), (2, .int x2)]) hx hb dL_counts_118 rfl hl (by decide) rfl (fun ls hl => ?_)
    refine lv_iload_n hx hb dL_counts_119 rfl (lv_at hl 0 rfl) ?_
    refine lv_if_eq (tgt := 145) hx hb dL_counts_120 (by decide) (fun c_777 => ?_) (fun c_777 => ?_)
    · have h := ip c_777 h
      refine lv_iconst (v := 0) hx hb dL_counts_145 (by decide) ?_
      obtain ⟨hz, h⟩ := zo_inv h
      obtain rfl := Option.some.inj h
      exact wrz hx hb hr hlocks hP hD hS (Nat.le_of_ble_eq_true rfl) (Nat.le_of_ble_eq_true rfl) hz rfl dL_counts_146
    · have h := iq c_777 h
      refine lv_iload_n hx hb dL_counts_123 rfl (lv_at hl 2 rfl) ?_
      refine lv_if_eq (tgt := 141) hx hb dL_counts_124 (by decide) (fun c_778 => ?_) (fun c_778 => ?_)
      · have h := ip c_778 h
        refine lv_iconst (v := 1) hx hb dL_counts_141 (by decide) ?_
        refine lv_goto (tgt := 146) hx hb dL_counts_142 (by decide) ?_
        obtain ⟨hz, h⟩ := zo_inv h
        obtain rfl := Option.some.inj h
        exact wrz hx hb hr hlocks hP hD hS (Nat.le_of_ble_eq_true rfl) (Nat.le_of_ble_eq_true rfl) hz rfl dL_counts_146
      · have h := iq c_778 h
        refine lv_aload_n hx hb dL_counts_127 rfl (lv_at hl 1 rfl) ?_
        refine lv_iload_n hx hb dL_counts_128 rfl (lv_at hl 2 rfl) ?_
        refine lv_iconst (v := 1) hx hb dL_counts_129 (by decide) ?_
        refine lv_isub hx hb dL_counts_130 ?_
        obtain ⟨u_779, hc_780, h⟩ := bdn_n h
        refine wafter_i (wr := []) (w2 := (w_C G c0 l0 l1 l2 l3 m0 m1 m2 m3 m4 m5 r0 r1 r2 r3 g0 g_e l_a l_b l_c l_n m_x m_y m_d m_t m_v m_n r_s r_n r_w r_k)) (va_runV (As := [.int (x2 - 1)]) (rest := []) ⟨hx, hb, hml, hown, hts⟩ (nX4_pair (l := l) (G := G) c0 l0 l1 l2 l3 m0 m1 m2 m3 m4 m5 r0 r1 r2 r3 g0 g_e l_a l_b l_c l_n m_x m_y m_d m_t m_v m_n r_s r_n r_w r_k (x2 - 1) N u_779 hc_780 _) (cwV 1 hts gL_counts_X4_pair rfl rfl rfl (by decide +kernel) ⟨Nat.le_of_ble_eq_true rfl, Nat.le_of_ble_eq_true rfl⟩) (wPreV hP hD hK [0, 1, 2, 3, 4, 5, 6, 7, 8, 9, 10, 11, 12, 13, 14, 15] rfl rfl (ci := 4) (qb := 0) rfl rfl rfl) rfl rfl hl.1 rfl (lv_room (Nat.le_of_ble_eq_true rfl)) dL_counts_131 ⟨Nat.zero_le _, Nat.zero_le _⟩) hP hD hS hA [0, 1, 2, 3, 4, 5, 6, 7, 8, 9, 10, 11, 12, 13, 14, 15] [] [0, 1, 2, 3, 4, 5, 6, 7, 8, 9, 10, 11, 12, 13, 14, 15] rfl rfl rfl (by decide) rfl rfl (fun H locs hP hD hS => ?_)
        obtain ⟨u_781, hc_782, h⟩ := bd_inv h
        refine wafter_i (wr := (w_C G c0 l0 l1 l2 l3 m0 m1 m2 m3 m4 m5 r0 r1 r2 r3 g0 g_e l_a l_b l_c l_n m_x m_y m_d m_t m_v m_n r_s r_n r_w r_k)) (w2 := (w_C G c0 l0 l1 l2 l3 m0 m1 m2 m3 m4 m5 r0 r1 r2 r3 g0 g_e l_a l_b l_c l_n m_x m_y m_d m_t m_v m_n r_s r_n r_w r_k)) (va_runS (As := [.int u_779]) (rest := []) ⟨hx, hb, hml, hown, hts⟩ (kL_size (l := l) (G := G)   u_779 N u_781 hc_782 _) (va_cwS 1 hts gL_counts_L_size rfl rfl rfl (by decide +kernel) ⟨Nat.le_of_ble_eq_true rfl, Nat.le_of_ble_eq_true rfl⟩) (wPreS hP hD hK [] rfl rfl) rfl rfl hl.1 rfl (lv_room (Nat.le_of_ble_eq_true rfl)) dL_counts_134 ⟨Nat.zero_le _, Nat.zero_le _⟩) hP hD hS hA [] [0, 1, 2, 3, 4, 5, 6, 7, 8, 9, 10, 11, 12, 13, 14, 15] [0, 1, 2, 3, 4, 5, 6, 7, 8, 9, 10, 11, 12, 13, 14, 15] rfl rfl rfl (by decide) rfl rfl (fun H locs hP hD hS => ?_)
        refine lv_iconst (v := 2) hx hb dL_counts_137 (by decide) ?_
        refine lv_icmp_ne (tgt := 145) hx hb dL_counts_138 (by decide) (fun c_783 => ?_) (fun c_783 => ?_)
        · have h := iq c_783 h
          refine lv_iconst (v := 0) hx hb dL_counts_145 (by decide) ?_
          obtain ⟨hz, h⟩ := zo_inv h
          obtain rfl := Option.some.inj h
          exact wrz hx hb hr hlocks hP hD hS (Nat.le_of_ble_eq_true rfl) (Nat.le_of_ble_eq_true rfl) hz rfl dL_counts_146
        · have h := ip c_783 h
          refine lv_iconst (v := 1) hx hb dL_counts_141 (by decide) ?_
          refine lv_goto (tgt := 146) hx hb dL_counts_142 (by decide) ?_
          obtain ⟨hz, h⟩ := zo_inv h
          obtain rfl := Option.some.inj h
          exact wrz hx hb hr hlocks hP hD hS (Nat.le_of_ble_eq_true rfl) (Nat.le_of_ble_eq_true rfl) hz rfl dL_counts_146
  have w_92 : ∀ (k_117 : Int32 → Int32 → Option (Int32)) (x2 : Int32)  (s0 : Int32) (s1 : Int32) (s2 : Int32) (H : Heap) (locs : List Loc) (ls : Array Slot), (∀ (t0 : Int32) (t1 : Int32) (H : Heap) (locs : List Loc) (ls : Array Slot), va_P G.1 vwCl (w_C G c0 l0 l1 l2 l3 m0 m1 m2 m3 m4 m5 r0 r1 r2 r3 g0 g_e l_a l_b l_c l_n m_x m_y m_d m_t m_v m_n r_s r_n r_w r_k) H → va_D A (w_C G c0 l0 l1 l2 l3 m0 m1 m2 m3 m4 m5 r0 r1 r2 r3 g0 g_e l_a l_b l_c l_n m_x m_y m_d m_t m_v m_n r_s r_n r_w r_k) → va_S A s.heap H locs → lv_has ls 4 [(0, .ref c0), (2, .int x2)] → k_117 t0 t1 = some v → W p l e ({ frames := 8, cells := 0, slots := 0, locals := 144 } : Room) s m args below meth c H locs 0 0 (wQi G A below args s (w_C G c0 l0 l1 l2 l3 m0 m1 m2 m3 m4 m5 r0 r1 r2 r3 g0 g_e l_a l_b l_c l_n m_x m_y m_d m_t m_v m_n r_s r_n r_w r_k) 0 0 v) (F0 m 117 ls [.int t1, .int t0])) → va_P G.1 vwCl (w_C G c0 l0 l1 l2 l3 m0 m1 m2 m3 m4 m5 r0 r1 r2 r3 g0 g_e l_a l_b l_c l_n m_x m_y m_d m_t m_v m_n r_s r_n r_w r_k) H → va_D A (w_C G c0 l0 l1 l2 l3 m0 m1 m2 m3 m4 m5 r0 r1 r2 r3 g0 g_e l_a l_b l_c l_n m_x m_y m_d m_t m_v m_n r_s r_n r_w r_k) → va_S A s.heap H locs → lv_has ls 4 [(0, .ref c0), (2, .int x2)] → fL_counts_b92 N l_n m_t m_n x2 s0 s1 s2 k_117 = some v → W p l e ({ frames := 8, cells := 0, slots := 0, locals := 144 } : Room) s m args below meth c H locs 0 0 (wQi G A below args s (w_C G c0 l0 l1 l2 l3 m0 m1 m2 m3 m4 m5 r0 r1 r2 r3 g0 g_e l_a l_b l_c l_n m_x m_y m_d m_t m_v m_n r_s r_n r_w r_k) 0 0 v) (F0 m 92 ls [.int s2, .int s1, .int s0]) := by
    intro k_117 x2 s0 s1 s2 H locs ls hk_117 hP hD hS hl h
    rw [fL_counts_b92.eq_1] at h
    refine lv_icmp_ne (tgt := 116) hx hb dL_counts_92 (by decide) (fun c_784 => ?_) (fun c_784 => ?_)
    · have h := iq c_784 h
      refine lv_iconst (v := 0) hx hb dL_counts_116 (by decide) ?_
      exact hk_117 _ _ _ _ _ hP hD hS (lv_sub hl [0, 1] rfl) h
    · have h := ip c_784 h
      refine lv_aload_n hx hb dL_counts_95 rfl (lv_at hl 0 rfl) ?_
      obtain ⟨u_785, hc_786, h⟩ := bd_inv h
      refine wafter_i (wr := []) (w2 := (w_C G c0 l0 l1 l2 l3 m0 m1 m2 m3 m4 m5 r0 r1 r2 r3 g0 g_e l_a l_b l_c l_n m_x m_y m_d m_t m_v m_n r_s r_n r_w r_k)) (va_runV (As := []) (rest := [.int s0]) ⟨hx, hb, hml, hown, hts⟩ (kX4_pairs (l := l) (G := G) c0 l0 l1 l2 l3 m0 m1 m2 m3 m4 m5 r0 r1 r2 r3 g0 g_e l_a l_b l_c l_n m_x m_y m_d m_t m_v m_n r_s r_n r_w r_k  N u_785 hc_786 _) (cwV 0 hts gL_counts_X4_pairs rfl rfl rfl (by decide +kernel) ⟨Nat.le_of_ble_eq_true rfl, Nat.le_of_ble_eq_true rfl⟩) (wPreV hP hD hK [0, 1, 2, 3, 4, 5, 6, 7, 8, 9, 10, 11, 12, 13, 14, 15] rfl rfl (ci := 4) (qb := 0) rfl rfl rfl) rfl rfl hl.1 rfl (lv_room (Nat.le_of_ble_eq_true rfl)) dL_counts_96 ⟨Nat.zero_le _, Nat.zero_le _⟩) hP hD hS hA [0, 1, 2, 3, 4, 5, 6, 7, 8, 9, 10, 11, 12, 13, 14, 15] [] [0, 1, 2, 3, 4, 5, 6, 7, 8, 9, 10, 11, 12, 13, 14, 15] rfl rfl rfl (by decide) rfl rfl (fun H locs hP hD hS => ?_)
      refine lv_iload_n hx hb dL_counts_99 rfl (lv_at hl 1 rfl) ?_
      refine lv_icmp_ne (tgt := 116) hx hb dL_counts_100 (by decide) (fun c_787 => ?_) (fun c_787 => ?_)
      · have h := iq c_787 h
        refine lv_iconst (v := 0) hx hb dL_counts_116 (by decide) ?_
        exact hk_117 _ _ _ _ _ hP hD hS (lv_sub hl [0, 1] rfl) h
      · have h := ip c_787 h
        refine lv_aload_n hx hb dL_counts_103 rfl (lv_at hl 0 rfl) ?_
        refine lv_iload_n hx hb dL_counts_104 rfl (lv_at hl 1 rfl) ?_
        obtain ⟨u_788, hc_789, h⟩ := bdn_n h
        refine wafter_i (wr := []) (w2 := (w_C G c0 l0 l1 l2 l3 m0 m1 m2 m3 m4 m5 r0 r1 r2 r3 g0 g_e l_a l_b l_c l_n m_x m_y m_d m_t m_v m_n r_s r_n r_w r_k)) (va_runV (As := [.int x2]) (rest := [.int s0]) ⟨hx, hb, hml, hown, hts⟩ (nX4_pair (l := l) (G := G) c0 l0 l1 l2 l3 m0 m1 m2 m3 m4 m5 r0 r1 r2 r3 g0 g_e l_a l_b l_c l_n m_x m_y m_d m_t m_v m_n r_s r_n r_w r_k x2 N u_788 hc_789 _) (cwV 1 hts gL_counts_X4_pair rfl rfl rfl (by decide +kernel) ⟨Nat.le_of_ble_eq_true rfl, Nat.le_of_ble_eq_true rfl⟩) (wPreV hP hD hK [0, 1, 2, 3, 4, 5, 6, 7, 8, 9, 10, 11, 12, 13, 14, 15] rfl rfl (ci := 4) (qb := 0) rfl rfl rfl) rfl rfl hl.1 rfl (lv_room (Nat.le_of_ble_eq_true rfl)) dL_counts_105 ⟨Nat.zero_le _, Nat.zero_le _⟩) hP hD hS hA [0, 1, 2, 3, 4, 5, 6, 7, 8, 9, 10, 11, 12, 13, 14, 15] [] [0, 1, 2, 3, 4, 5, 6, 7, 8, 9, 10, 11, 12, 13, 14, 15] rfl rfl rfl (by decide) rfl rfl (fun H locs hP hD hS => ?_)
        refine lv_iconst (v := (-1)) hx hb dL_counts_108 (by decide) ?_
        refine lv_icmp_ne (tgt := 116) hx hb dL_counts_109 (by decide) (fun c_790 => ?_) (fun c_790 => ?_)
        · have h := iq c_790 h
          refine lv_iconst (v := 0) hx hb dL_counts_116 (by decide) ?_
          exact hk_117 _ _ _ _ _ hP hD hS (lv_sub hl [0, 1] rfl) h
        · have h := ip c_790 h
          refine lv_iconst (v := 1) hx hb dL_counts_112 (by decide) ?_
          refine lv_goto (tgt := 117) hx hb dL_counts_113 (by decide) ?_
          exact hk_117 _ _ _ _ _ hP hD hS (lv_sub hl [0, 1] rfl) h
  have w_58 : ∀ (x1 : Int32) (x2 : Int32)  (s0 : Int32) (H : Heap) (locs : List Loc) (ls : Array Slot), va_P G.1 vwCl (w_C G c0 l0 l1 l2 l3 m0 m1 m2 m3 m4 m5 r0 r1 r2 r3 g0 g_e l_a l_b l_c l_n m_x m_y m_d m_t m_v m_n r_s r_n r_w r_k) H → va_D A (w_C G c0 l0 l1 l2 l3 m0 m1 m2 m3 m4 m5 r0 r1 r2 r3 g0 g_e l_a l_b l_c l_n m_x m_y m_d m_t m_v m_n r_s r_n r_w r_k) → va_S A s.heap H locs → lv_has ls 4 [(0, .ref c0), (1, .int x1), (2, .int x2)] → fL_counts_b58 N l_a l_b l_n m_t m_n r_s r_k x1 x2 s0 = some v → W p l e ({ frames := 8, cells := 0, slots := 0, locals := 144 } : Room) s m args below meth c H locs 0 0 (wQi G A below args s (w_C G c0 l0 l1 l2 l3 m0 m1 m2 m3 m4 m5 r0 r1 r2 r3 g0 g_e l_a l_b l_c l_n m_x m_y m_d m_t m_v m_n r_s r_n r_w r_k) 0 0 v) (F0 m 58 ls [.int s0]) := by
    intro x1 x2 s0 H locs ls hP hD hS hl h
    rw [fL_counts_b58.eq_1] at h
    refine lv_istore_n (lv' := [(3, .int s0), (0, .ref c0), (1, .int x1), (2, .int x2)]) hx hb dL_counts_58 rfl hl (by decide) rfl (fun ls hl => ?_)
    refine lv_iload_n hx hb dL_counts_59 rfl (lv_at hl 0 rfl) ?_
    refine lv_aload_n hx hb dL_counts_60 rfl (lv_at hl 1 rfl) ?_
    obtain ⟨u_791, hc_792, h⟩ := bd_inv h
    refine wafter_i (wr := []) (w2 := (w_C G c0 l0 l1 l2 l3 m0 m1 m2 m3 m4 m5 r0 r1 r2 r3 g0 g_e l_a l_b l_c l_n m_x m_y m_d m_t m_v m_n r_s r_n r_w r_k)) (va_runV (As := []) (rest := [.int s0]) ⟨hx, hb, hml, hown, hts⟩ (kX4_rooms (l := l) (G := G) c0 l0 l1 l2 l3 m0 m1 m2 m3 m4 m5 r0 r1 r2 r3 g0 g_e l_a l_b l_c l_n m_x m_y m_d m_t m_v m_n r_s r_n r_w r_k  N u_791 hc_792 _) (cwV 0 hts gL_counts_X4_rooms rfl rfl rfl (by decide +kernel) ⟨Nat.le_of_ble_eq_true rfl, Nat.le_of_ble_eq_true rfl⟩) (wPreV hP hD hK [0, 1, 2, 3, 4, 5, 6, 7, 8, 9, 10, 11, 12, 13, 14, 15] rfl rfl (ci := 4) (qb := 0) rfl rfl rfl) rfl rfl hl.1 rfl (lv_room (Nat.le_of_ble_eq_true rfl)) dL_counts_61 ⟨Nat.zero_le _, Nat.zero_le _⟩) hP hD hS hA [0, 1, 2, 3, 4, 5, 6, 7, 8, 9, 10, 11, 12, 13, 14, 15] [] [0, 1, 2, 3, 4, 5, 6, 7, 8, 9, 10, 11, 12, 13, 14, 15] rfl rfl rfl (by decide) rfl rfl (fun H locs hP hD hS => ?_)
    refine lv_iconst (v := 1) hx hb dL_counts_64 (by decide) ?_
    refine lv_iload_n hx hb dL_counts_65 rfl (lv_at hl 2 rfl) ?_
    refine lv_iadd hx hb dL_counts_66 ?_
    refine lv_iload_n hx hb dL_counts_67 rfl (lv_at hl 3 rfl) ?_
    refine lv_iadd hx hb dL_counts_68 ?_
    refine lv_icmp_ne (tgt := 116) hx hb dL_counts_69 (by decide) (fun c_793 => ?_) (fun c_793 => ?_)
    · have h := iq c_793 h
      refine lv_iconst (v := 0) hx hb dL_counts_116 (by decide) ?_
      exact w_117  _  _ _ _ _ _  hP hD hS (lv_sub hl [1, 3] rfl) h
    · have h := ip c_793 h
      refine lv_aload_n hx hb dL_counts_72 rfl (lv_at hl 1 rfl) ?_
      obtain ⟨u_794, hc_795, h⟩ := bd_inv h
      refine wafter_i (wr := []) (w2 := (w_C G c0 l0 l1 l2 l3 m0 m1 m2 m3 m4 m5 r0 r1 r2 r3 g0 g_e l_a l_b l_c l_n m_x m_y m_d m_t m_v m_n r_s r_n r_w r_k)) (va_runV (As := []) (rest := [.int s0]) ⟨hx, hb, hml, hown, hts⟩ (kX4_bounded (l := l) (G := G) c0 l0 l1 l2 l3 m0 m1 m2 m3 m4 m5 r0 r1 r2 r3 g0 g_e l_a l_b l_c l_n m_x m_y m_d m_t m_v m_n r_s r_n r_w r_k  N u_794 hc_795 _) (cwV 0 hts gL_counts_X4_bounded rfl rfl rfl (by decide +kernel) ⟨Nat.le_of_ble_eq_true rfl, Nat.le_of_ble_eq_true rfl⟩) (wPreV hP hD hK [0, 1, 2, 3, 4, 5, 6, 7, 8, 9, 10, 11, 12, 13, 14, 15] rfl rfl (ci := 4) (qb := 0) rfl rfl rfl) rfl rfl hl.1 rfl (lv_room (Nat.le_of_ble_eq_true rfl)) dL_counts_73 ⟨Nat.zero_le _, Nat.zero_le _⟩) hP hD hS hA [0, 1, 2, 3, 4, 5, 6, 7, 8, 9, 10, 11, 12, 13, 14, 15] [] [0, 1, 2, 3, 4, 5, 6, 7, 8, 9, 10, 11, 12, 13, 14, 15] rfl rfl rfl (by decide) rfl rfl (fun H locs hP hD hS => ?_)
      refine lv_aload_n hx hb dL_counts_76 rfl (lv_at hl 1 rfl) ?_
      obtain ⟨u_796, hc_797, h⟩ := bd_inv h
      refine wafter_i (wr := []) (w2 := (w_C G c0 l0 l1 l2 l3 m0 m1 m2 m3 m4 m5 r0 r1 r2 r3 g0 g_e l_a l_b l_c l_n m_x m_y m_d m_t m_v m_n r_s r_n r_w r_k)) (va_runV (As := []) (rest := [.int u_794, .int s0]) ⟨hx, hb, hml, hown, hts⟩ (kX4_meets (l := l) (G := G) c0 l0 l1 l2 l3 m0 m1 m2 m3 m4 m5 r0 r1 r2 r3 g0 g_e l_a l_b l_c l_n m_x m_y m_d m_t m_v m_n r_s r_n r_w r_k  N u_796 hc_797 _) (cwV 0 hts gL_counts_X4_meets rfl rfl rfl (by decide +kernel) ⟨Nat.le_of_ble_eq_true rfl, Nat.le_of_ble_eq_true rfl⟩) (wPreV hP hD hK [0, 1, 2, 3, 4, 5, 6, 7, 8, 9, 10, 11, 12, 13, 14, 15] rfl rfl (ci := 4) (qb := 0) rfl rfl rfl) rfl rfl hl.1 rfl (lv_room (Nat.le_of_ble_eq_true rfl)) dL_counts_77 ⟨Nat.zero_le _, Nat.zero_le _⟩) hP hD hS hA [0, 1, 2, 3, 4, 5, 6, 7, 8, 9, 10, 11, 12, 13, 14, 15] [] [0, 1, 2, 3, 4, 5, 6, 7, 8, 9, 10, 11, 12, 13, 14, 15] rfl rfl rfl (by decide) rfl rfl (fun H locs hP hD hS => ?_)
      refine lv_if_ne (tgt := 87) hx hb dL_counts_80 (by decide) (fun c_798 => ?_) (fun c_798 => ?_)
      · have h := iq c_798 h
        refine lv_iconst (v := 1) hx hb dL_counts_87 (by decide) ?_
        refine lv_iload_n hx hb dL_counts_88 rfl (lv_at hl 2 rfl) ?_
        refine lv_isub hx hb dL_counts_89 ?_
        refine lv_iload_n hx hb dL_counts_90 rfl (lv_at hl 3 rfl) ?_
        refine lv_iadd hx hb dL_counts_91 ?_
        refine w_92 _ _  _ _ _ _ _ _ (fun s_799 s_800 H locs ls hP hD hS hl h => ?_) hP hD hS (lv_sub hl [1, 3] rfl) h
        exact w_117  _  _ _ _ _ _  hP hD hS (lv_sub hl [0, 1] rfl) h
      · have h := ip c_798 h
        refine lv_iconst (v := 0) hx hb dL_counts_83 (by decide) ?_
        refine lv_goto (tgt := 92) hx hb dL_counts_84 (by decide) ?_
        refine w_92 _ _  _ _ _ _ _ _ (fun s_801 s_802 H locs ls hP hD hS hl h => ?_) hP hD hS (lv_sub hl [1, 3] rfl) h
        exact w_117  _  _ _ _ _ _  hP hD hS (lv_sub hl [0, 1] rfl) h
  rw [fL_counts.eq_1] at h
  refine lv_aload_n hx hb dL_counts_0 rfl (lv_at hl 0 rfl) ?_
  refine lv_iconst (v := 0) hx hb dL_counts_1 (by decide) ?_
  obtain ⟨u_803, hc_804, h⟩ := bdn_n h
  refine wafter_i (wr := []) (w2 := (w_C G c0 l0 l1 l2 l3 m0 m1 m2 m3 m4 m5 r0 r1 r2 r3 g0 g_e l_a l_b l_c l_n m_x m_y m_d m_t m_v m_n r_s r_n r_w r_k)) (va_runV (As := [.int 0]) (rest := []) ⟨hx, hb, hml, hown, hts⟩ (nX4_polynomial (l := l) (G := G) c0 l0 l1 l2 l3 m0 m1 m2 m3 m4 m5 r0 r1 r2 r3 g0 g_e l_a l_b l_c l_n m_x m_y m_d m_t m_v m_n r_s r_n r_w r_k 0 N u_803 hc_804 _) (cwV 1 hts gL_counts_X4_polynomial rfl rfl rfl (by decide +kernel) ⟨Nat.le_of_ble_eq_true rfl, Nat.le_of_ble_eq_true rfl⟩) (wPreV hP hD hK [0, 1, 2, 3, 4, 5, 6, 7, 8, 9, 10, 11, 12, 13, 14, 15] rfl rfl (ci := 4) (qb := 0) rfl rfl rfl) rfl rfl hl.1 rfl (lv_room (Nat.le_of_ble_eq_true rfl)) dL_counts_2 ⟨Nat.zero_le _, Nat.zero_le _⟩) hP hD hS hA [0, 1, 2, 3, 4, 5, 6, 7, 8, 9, 10, 11, 12, 13, 14, 15] [] [0, 1, 2, 3, 4, 5, 6, 7, 8, 9, 10, 11, 12, 13, 14, 15] rfl rfl rfl (by decide) rfl rfl (fun H locs hP hD hS => ?_)
  refine lv_istore_n (lv' := [(2, .int u_803), (0, .ref c0), (1, .int x1)]) hx hb dL_counts_5 rfl hl (by decide) rfl (fun ls hl => ?_)
  refine lv_aload_n hx hb dL_counts_6 rfl (lv_at hl 1 rfl) ?_
  refine lv_iconst (v := 2) hx hb dL_counts_7 (by decide) ?_
  obtain ⟨u_805, hc_806, h⟩ := bdn_n h
  refine wafter_i (wr := []) (w2 := (w_C G c0 l0 l1 l2 l3 m0 m1 m2 m3 m4 m5 r0 r1 r2 r3 g0 g_e l_a l_b l_c l_n m_x m_y m_d m_t m_v m_n r_s r_n r_w r_k)) (va_runV (As := [.int 2]) (rest := []) ⟨hx, hb, hml, hown, hts⟩ (nX4_polynomial (l := l) (G := G) c0 l0 l1 l2 l3 m0 m1 m2 m3 m4 m5 r0 r1 r2 r3 g0 g_e l_a l_b l_c l_n m_x m_y m_d m_t m_v m_n r_s r_n r_w r_k 2 N u_805 hc_806 _) (cwV 1 hts gL_counts_X4_polynomial rfl rfl rfl (by decide +kernel) ⟨Nat.le_of_ble_eq_true rfl, Nat.le_of_ble_eq_true rfl⟩) (wPreV hP hD hK [0, 1, 2, 3, 4, 5, 6, 7, 8, 9, 10, 11, 12, 13, 14, 15] rfl rfl (ci := 4) (qb := 0) rfl rfl rfl) rfl rfl hl.1 rfl (lv_room (Nat.le_of_ble_eq_true rfl)) dL_counts_8 ⟨Nat.zero_le _, Nat.zero_le _⟩) hP hD hS hA [0, 1, 2, 3, 4, 5, 6, 7, 8, 9, 10, 11, 12, 13, 14, 15] [] [0, 1, 2, 3, 4, 5, 6, 7, 8, 9, 10, 11, 12, 13, 14, 15] rfl rfl rfl (by decide) rfl rfl (fun H locs hP hD hS => ?_)
  refine lv_iconst (v := 1) hx hb dL_counts_11 (by decide) ?_
  refine lv_icmp_ne (tgt := 57) hx hb dL_counts_12 (by decide) (fun c_807 => ?_) (fun c_807 => ?_)
  · have h := iq c_807 h
    refine lv_iconst (v := 0) hx hb dL_counts_57 (by decide) ?_
    exact w_58  _ _  _ _ _ _  hP hD hS (lv_sub hl [1, 2, 0] rfl) h
  · have h := ip c_807 h
    refine lv_aload_n hx hb dL_counts_15 rfl (lv_at hl 1 rfl) ?_
    refine lv_iconst (v := 1) hx hb dL_counts_16 (by decide) ?_
    obtain ⟨u_808, hc_809, h⟩ := bdn_n h
    refine wafter_i (wr := []) (w2 := (w_C G c0 l0 l1 l2 l3 m0 m1 m2 m3 m4 m5 r0 r1 r2 r3 g0 g_e l_a l_b l_c l_n m_x m_y m_d m_t m_v m_n r_s r_n r_w r_k)) (va_runV (As := [.int 1]) (rest := []) ⟨hx, hb, hml, hown, hts⟩ (nX4_polynomial (l := l) (G := G) c0 l0 l1 l2 l3 m0 m1 m2 m3 m4 m5 r0 r1 r2 r3 g0 g_e l_a l_b l_c l_n m_x m_y m_d m_t m_v m_n r_s r_n r_w r_k 1 N u_808 hc_809 _) (cwV 1 hts gL_counts_X4_polynomial rfl rfl rfl (by decide +kernel) ⟨Nat.le_of_ble_eq_true rfl, Nat.le_of_ble_eq_true rfl⟩) (wPreV hP hD hK [0, 1, 2, 3, 4, 5, 6, 7, 8, 9, 10, 11, 12, 13, 14, 15] rfl rfl (ci := 4) (qb := 0) rfl rfl rfl) rfl rfl hl.1 rfl (lv_room (Nat.le_of_ble_eq_true rfl)) dL_counts_17 ⟨Nat.zero_le _, Nat.zero_le _⟩) hP hD hS hA [0, 1, 2, 3, 4, 5, 6, 7, 8, 9, 10, 11, 12, 13, 14, 15] [] [0, 1, 2, 3, 4, 5, 6, 7, 8, 9, 10, 11, 12, 13, 14, 15] rfl rfl rfl (by decide) rfl rfl (fun H locs hP hD hS => ?_)
    refine lv_iload_n hx hb dL_counts_20 rfl (lv_at hl 2 rfl) ?_
    refine lv_ineg hx hb dL_counts_21 ?_
    refine lv_icmp_ne (tgt := 57) hx hb dL_counts_22 (by decide) (fun c_810 => ?_) (fun c_810 => ?_)
    · have h := iq c_810 h
      refine lv_iconst (v := 0) hx hb dL_counts_57 (by decide) ?_
      exact w_58  _ _  _ _ _ _  hP hD hS (lv_sub hl [1, 2, 0] rfl) h
    · have h := ip c_810 h
      refine lv_aload_n hx hb dL_counts_25 rfl (lv_at hl 1 rfl) ?_
      refine lv_iconst (v := 0) hx hb dL_counts_26 (by decide) ?_
      obtain ⟨u_811, hc_812, h⟩ := bdn_n h
      refine wafter_i (wr := []) (w2 := (w_C G c0 l0 l1 l2 l3 m0 m1 m2 m3 m4 m5 r0 r1 r2 r3 g0 g_e l_a l_b l_c l_n m_x m_y m_d m_t m_v m_n r_s r_n r_w r_k)) (va_runV (As := [.int 0]) (rest := []) ⟨hx, hb, hml, hown, hts⟩ (nX4_polynomialAnew (l := l) (G := G) c0 l0 l1 l2 l3 m0 m1 m2 m3 m4 m5 r0 r1 r2 r3 g0 g_e l_a l_b l_c l_n m_x m_y m_d m_t m_v m_n r_s r_n r_w r_k 0 N u_811 hc_812 _) (cwV 1 hts gL_counts_X4_polynomialAnew rfl rfl rfl (by decide +kernel) ⟨Nat.le_of_ble_eq_true rfl, Nat.le_of_ble_eq_true rfl⟩) (wPreV hP hD hK [0, 1, 2, 3, 4, 5, 6, 7, 8, 9, 10, 11, 12, 13, 14, 15] rfl rfl (ci := 4) (qb := 0) rfl rfl rfl) rfl rfl hl.1 rfl (lv_room (Nat.le_of_ble_eq_true rfl)) dL_counts_27 ⟨Nat.zero_le _, Nat.zero_le _⟩) hP hD hS hA [0, 1, 2, 3, 4, 5, 6, 7, 8, 9, 10, 11, 12, 13, 14, 15] [] [0, 1, 2, 3, 4, 5, 6, 7, 8, 9, 10, 11, 12, 13, 14, 15] rfl rfl rfl (by decide) rfl rfl (fun H locs hP hD hS => ?_)
      refine lv_iload_n hx hb dL_counts_30 rfl (lv_at hl 0 rfl) ?_
      refine lv_icmp_ne (tgt := 57) hx hb dL_counts_31 (by decide) (fun c_813 => ?_) (fun c_813 => ?_)
      · have h := iq c_813 h
        refine lv_iconst (v := 0) hx hb dL_counts_57 (by decide) ?_
        exact w_58  _ _  _ _ _ _  hP hD hS (lv_sub hl [1, 2, 0] rfl) h
      · have h := ip c_813 h
        refine lv_aload_n hx hb dL_counts_34 rfl (lv_at hl 1 rfl) ?_
        refine lv_iconst (v := 1) hx hb dL_counts_35 (by decide) ?_
        obtain ⟨u_814, hc_815, h⟩ := bdn_n h
        refine wafter_i (wr := []) (w2 := (w_C G c0 l0 l1 l2 l3 m0 m1 m2 m3 m4 m5 r0 r1 r2 r3 g0 g_e l_a l_b l_c l_n m_x m_y m_d m_t m_v m_n r_s r_n r_w r_k)) (va_runV (As := [.int 1]) (rest := []) ⟨hx, hb, hml, hown, hts⟩ (nX4_polynomialAnew (l := l) (G := G) c0 l0 l1 l2 l3 m0 m1 m2 m3 m4 m5 r0 r1 r2 r3 g0 g_e l_a l_b l_c l_n m_x m_y m_d m_t m_v m_n r_s r_n r_w r_k 1 N u_814 hc_815 _) (cwV 1 hts gL_counts_X4_polynomialAnew rfl rfl rfl (by decide +kernel) ⟨Nat.le_of_ble_eq_true rfl, Nat.le_of_ble_eq_true rfl⟩) (wPreV hP hD hK [0, 1, 2, 3, 4, 5, 6, 7, 8, 9, 10, 11, 12, 13, 14, 15] rfl rfl (ci := 4) (qb := 0) rfl rfl rfl) rfl rfl hl.1 rfl (lv_room (Nat.le_of_ble_eq_true rfl)) dL_counts_36 ⟨Nat.zero_le _, Nat.zero_le _⟩) hP hD hS hA [0, 1, 2, 3, 4, 5, 6, 7, 8, 9, 10, 11, 12, 13, 14, 15] [] [0, 1, 2, 3, 4, 5, 6, 7, 8, 9, 10, 11, 12, 13, 14, 15] rfl rfl rfl (by decide) rfl rfl (fun H locs hP hD hS => ?_)
        refine lv_iload_n hx hb dL_counts_39 rfl (lv_at hl 2 rfl) ?_
        refine lv_ineg hx hb dL_counts_40 ?_
        refine lv_icmp_ne (tgt := 57) hx hb dL_counts_41 (by decide) (fun c_816 => ?_) (fun c_816 => ?_)
        · have h := iq c_816 h
          refine lv_iconst (v := 0) hx hb dL_counts_57 (by decide) ?_
          exact w_58  _ _  _ _ _ _  hP hD hS (lv_sub hl [1, 2, 0] rfl) h
        · have h := ip c_816 h
          refine lv_aload_n hx hb dL_counts_44 rfl (lv_at hl 1 rfl) ?_
          refine lv_iconst (v := 2) hx hb dL_counts_45 (by decide) ?_
          obtain ⟨u_817, hc_818, h⟩ := bdn_n h
          refine wafter_i (wr := []) (w2 := (w_C G c0 l0 l1 l2 l3 m0 m1 m2 m3 m4 m5 r0 r1 r2 r3 g0 g_e l_a l_b l_c l_n m_x m_y m_d m_t m_v m_n r_s r_n r_w r_k)) (va_runV (As := [.int 2]) (rest := []) ⟨hx, hb, hml, hown, hts⟩ (nX4_polynomialAnew (l := l) (G := G) c0 l0 l1 l2 l3 m0 m1 m2 m3 m4 m5 r0 r1 r2 r3 g0 g_e l_a l_b l_c l_n m_x m_y m_d m_t m_v m_n r_s r_n r_w r_k 2 N u_817 hc_818 _) (cwV 1 hts gL_counts_X4_polynomialAnew rfl rfl rfl (by decide +kernel) ⟨Nat.le_of_ble_eq_true rfl, Nat.le_of_ble_eq_true rfl⟩) (wPreV hP hD hK [0, 1, 2, 3, 4, 5, 6, 7, 8, 9, 10, 11, 12, 13, 14, 15] rfl rfl (ci := 4) (qb := 0) rfl rfl rfl) rfl rfl hl.1 rfl (lv_room (Nat.le_of_ble_eq_true rfl)) dL_counts_46 ⟨Nat.zero_le _, Nat.zero_le _⟩) hP hD hS hA [0, 1, 2, 3, 4, 5, 6, 7, 8, 9, 10, 11, 12, 13, 14, 15] [] [0, 1, 2, 3, 4, 5, 6, 7, 8, 9, 10, 11, 12, 13, 14, 15] rfl rfl rfl (by decide) rfl rfl (fun H locs hP hD hS => ?_)
          refine lv_iconst (v := 1) hx hb dL_counts_49 (by decide) ?_
          refine lv_icmp_ne (tgt := 57) hx hb dL_counts_50 (by decide) (fun c_819 => ?_) (fun c_819 => ?_)
          · have h := iq c_819 h
            refine lv_iconst (v := 0) hx hb dL_counts_57 (by decide) ?_
            exact w_58  _ _  _ _ _ _  hP hD hS (lv_sub hl [1, 2, 0] rfl) h
          · have h := ip c_819 h
            refine lv_iconst (v := 1) hx hb dL_counts_53 (by decide) ?_
            refine lv_goto (tgt := 58) hx hb dL_counts_54 (by decide) ?_
            exact w_58  _ _  _ _ _ _  hP hD hS (lv_sub hl [1, 2, 0] rfl) h
def fL_rooms_b129 (N : Nat) (x5 : Int32) (s0 : Int32) (s1 : Int32) (s2 : Int32) (k_148 : Int32 → Int32 → Option (Int32)) : Option (Int32) := if s1 = s2 then if x5 ≤ 0 then k_148 (s0 &&& 0) 0 else k_148 (s0 &&& 1) 0 else k_148 (s0 &&& 0) 0
def fL_rooms_b195 (N : Nat) (x8 : Int32) (s0 : Int32) (s1 : Int32) (s2 : Int32) (k_148 : Int32 → Int32 → Option (Int32)) : Option (Int32) := if s1 = s2 then k_148 (s0 &&& 1) (x8 + 1) else k_148 (s0 &&& 0) (x8 + 1)
def fL_rooms_b179 (N : Nat) (x4 : Int32) (x8 : Int32) (s0 : Int32) (s1 : Int32) (k_148 : Int32 → Int32 → Option (Int32)) : Option (Int32) := if ((x4 >>> (x8 &&& 31)) &&& 1) = 1 then fL_rooms_b195 N x8 s0 s1 1 (fun (x7_826 : Int32) (x8_827 : Int32) => k_148 x7_826 x8_827) else fL_rooms_b195 N x8 s0 s1 0 (fun (x7_824 : Int32) (x8_825 : Int32) => k_148 x7_824 x8_825)
def fL_rooms_b148 (N : Nat) (r_n : Nat → Int32) (x3 : Int32) (x4 : Int32) : Nat → Int32 → Int32 → Option (Int32)
  | 0, _, _ => none
  | n + 1, x7, x8 => if 9 ≤ x8 then zo x7 (some x7) else bdn (fX4_roomOf N r_n (x3 ^^^ (1 <<< (x8 &&& 31)))) (fun u_829 => if u_829 < 0 then fL_rooms_b179 N x4 x8 x7 0 (fun (x7_832 : Int32) (x8_833 : Int32) => fL_rooms_b148 N r_n x3 x4 n x7_832 x8_833) else fL_rooms_b179 N x4 x8 x7 1 (fun (x7_834 : Int32) (x8_835 : Int32) => fL_rooms_b148 N r_n x3 x4 n x7_834 x8_835))
def fL_rooms_b81 (N : Nat) (r_n : Nat → Int32) (x2 : Int32) (x3 : Int32) (x4 : Int32) (x5 : Int32) (x6 : Int32) (s0 : Int32) : Option (Int32) := if x2 = 0 then if x5 = 0 then if x6 = 0 then fL_rooms_b148 N r_n x3 x4 N (s0 &&& 1) 0 else fL_rooms_b148 N r_n x3 x4 N (s0 &&& 0) 0 else fL_rooms_b148 N r_n x3 x4 N (s0 &&& 0) 0 else if x6 = 0 then bd (fL_size N x4) (fun u_838 => fL_rooms_b129 N x5 s0 x5 (u_838 - 1) (fun (x7_840 : Int32) (x8_841 : Int32) => fL_rooms_b148 N r_n x3 x4 N x7_840 x8_841)) else bd (fL_size N x4) (fun u_842 => fL_rooms_b129 N x5 s0 x5 u_842 (fun (x7_844 : Int32) (x8_845 : Int32) => fL_rooms_b148 N r_n x3 x4 N x7_844 x8_845))
def fL_rooms_b65 (N : Nat) (m_t : Nat → Int32) (m_v : Nat → Int32) (m_n : Int32) (r_s : Nat → Int32) (r_k : Int32) (x1 : Int32) (x5 : Int32) (k_81 : Int32 → Option (Int32)) : Option (Int32) := bdn (fX4_corner N m_t m_v m_n r_s r_k x1 x5) (fun u_848 => if u_848 = (-1) then k_81 1 else k_81 0)
def fL_rooms_b38 (N : Nat) (l_a : Nat → Int32) (l_b : Nat → Int32) (l_n : Int32) (m_t : Nat → Int32) (m_v : Nat → Int32) (m_n : Int32) (r_s : Nat → Int32) (r_n : Nat → Int32) (r_k : Int32) (x1 : Int32) (x2 : Int32) (x3 : Int32) (x4 : Int32) (x5 : Int32) (s0 : Int32) : Option (Int32) := bdn (fX4_roomOf N r_n x3) (fun u_851 => if u_851 = x1 then if x1 = 0 then fL_rooms_b65 N m_t m_v m_n r_s r_k x1 x5 (fun (s_855 : Int32) => fL_rooms_b81 N r_n x2 x3 x4 x5 s0 s_855) else bdn (fX4_room N l_a l_b l_n m_t m_v m_n r_s r_n r_k (x1 - 1) 0) (fun u_856 => if x3 ≤ u_856 then fL_rooms_b81 N r_n x2 x3 x4 x5 s0 0 else fL_rooms_b65 N m_t m_v m_n r_s r_k x1 x5 (fun (s_859 : Int32) => fL_rooms_b81 N r_n x2 x3 x4 x5 s0 s_859)) else fL_rooms_b81 N r_n x2 x3 x4 x5 s0 0)
def fL_rooms (N : Nat) (l_a : Nat → Int32) (l_b : Nat → Int32) (l_n : Int32) (m_t : Nat → Int32) (m_v : Nat → Int32) (m_n : Int32) (r_s : Nat → Int32) (r_n : Nat → Int32) (r_k : Int32) (x1 : Int32) (x2 : Int32) : Option (Int32) := bdn (fX4_room N l_a l_b l_n m_t m_v m_n r_s r_n r_k x1 0) (fun u_860 => bdn (fX4_room N l_a l_b l_n m_t m_v m_n r_s r_n r_k x1 2) (fun u_862 => bdn (fX4_room N l_a l_b l_n m_t m_v m_n r_s r_n r_k x1 3) (fun u_864 => bdn (fX4_room N l_a l_b l_n m_t m_v m_n r_s r_n r_k x1 1) (fun u_866 => if u_866 = 1 then fL_rooms_b38 N l_a l_b l_n m_t m_v m_n r_s r_n r_k x1 x2 u_860 u_862 u_864 1 else fL_rooms_b38 N l_a l_b l_n m_t m_v m_n r_s r_n r_k x1 x2 u_860 u_862 u_864 0))))
set_option maxHeartbeats 4000000 in
set_option maxRecDepth 100000 in
theorem kL_rooms {l : Launch} {G : wG} (c0 l0 l1 l2 l3 m0 m1 m2 m3 m4 m5 r0 r1 r2 r3 g0 : Nat) (g_e : Int64) (l_a : Nat → Int32) (l_b : Nat → Int32) (l_c : Nat → Int32) (l_n : Int32) (m_x : Nat → Int32) (m_y : Nat → Int32) (m_d : Nat → Int32) (m_t : Nat → Int32) (m_v : Nat → Int32) (m_n : Int32) (r_s : Nat → Int32) (r_n : Nat → Int32) (r_w : Nat → Int32) (r_k : Int32) (x1 : Int32) (x2 : Int32) (N : Nat) (v : Int32) (h : fL_rooms N l_a l_b l_n m_t m_v m_n r_s r_n r_k x1 x2 = some v) : wCi l G yL_rooms wsL_rooms ({ frames := 8, cells := 0, slots := 0, locals := 143 } : Room) [.ref c0, .int x1, .int x2] (w_C G c0 l0 l1 l2 l3 m0 m1 m2 m3 m4 m5 r0 r1 r2 r3 g0 g_e l_a l_b l_c l_n m_x m_y m_d m_t m_v m_n r_s r_n r_w r_k) (w_C G c0 l0 l1 l2 l3 m0 m1 m2 m3 m4 m5 r0 r1 r2 r3 g0 g_e l_a l_b l_c l_n m_x m_y m_d m_t m_v m_n r_s r_n r_w r_k) 0 0 v := by
  refine wCi.mk (cc := cL_rooms) (maxL := 10) (ty := .boolean) (by decide) rfl (Nat.le_of_ble_eq_true rfl) ?_
  intro p e s m below meth c A ls hx hb hml hr hlocks hts hown hK hA hP hD hl
  have hx : p.tables.exec = Jvm.exec := hx
  have hown : s.vm.findClass RL = some m.cls := hown
  have hS : va_S A s.heap s.heap [] := va_S.rf
  have hP : va_P G.1 vwCl (w_C G c0 l0 l1 l2 l3 m0 m1 m2 m3 m4 m5 r0 r1 r2 r3 g0 g_e l_a l_b l_c l_n m_x m_y m_d m_t m_v m_n r_s r_n r_w r_k) s.heap := hP
  have hD : va_D A (w_C G c0 l0 l1 l2 l3 m0 m1 m2 m3 m4 m5 r0 r1 r2 r3 g0 g_e l_a l_b l_c l_n m_x m_y m_d m_t m_v m_n r_s r_n r_w r_k) := hD
  have hl : lv_has ls 10 [(0, .ref c0), (1, .int x1), (2, .int x2)] := hl
  obtain ⟨args, hargs⟩ : ∃ z : Array Value, z = ([.ref c0, .int x1, .int x2] : List Value).toArray := ⟨_, rfl⟩
  rw [← hargs]
  rw [← hargs] at hts
  have w_129 : ∀ (k_148 : Int32 → Int32 → Option (Int32)) (x3 : Int32) (x4 : Int32) (x5 : Int32)  (s0 : Int32) (s1 : Int32) (s2 : Int32) (H : Heap) (locs : List Loc) (ls : Array Slot), (∀ (y7 : Int32) (y8 : Int32) (H : Heap) (locs : List Loc) (ls : Array Slot), va_P G.1 vwCl (w_C G c0 l0 l1 l2 l3 m0 m1 m2 m3 m4 m5 r0 r1 r2 r3 g0 g_e l_a l_b l_c l_n m_x m_y m_d m_t m_v m_n r_s r_n r_w r_k) H → va_D A (w_C G c0 l0 l1 l2 l3 m0 m1 m2 m3 m4 m5 r0 r1 r2 r3 g0 g_e l_a l_b l_c l_n m_x m_y m_d m_t m_v m_n r_s r_n r_w r_k) → va_S A s.heap H locs → lv_has ls 10 [(0, .ref c0), (3, .int x3), (4, .int x4), (7, .int y7), (8, .int y8)] → k_148 y7 y8 = some v → W p l e ({ frames := 8, cells := 0, slots := 0, locals := 143 } : Room) s m args below meth c H locs 0 0 (wQi G A below args s (w_C G c0 l0 l1 l2 l3 m0 m1 m2 m3 m4 m5 r0 r1 r2 r3 g0 g_e l_a l_b l_c l_n m_x m_y m_d m_t m_v m_n r_s r_n r_w r_k) 0 0 v) (F0 m 148 ls [])) → va_P G.1 vwCl (w_C G c0 l0 l1 l2 l3 m0 m1 m2 m3 m4 m5 r0 r1 r2 r3 g0 g_e l_a l_b l_c l_n m_x m_y m_d m_t m_v m_n r_s r_n r_w r_k) H → va_D A (w_C G c0 l0 l1 l2 l3 m0 m1 m2 m3 m4 m5 r0 r1 r2 r3 g0 g_e l_a l_b l_c l_n m_x m_y m_d m_t m_v m_n r_s r_n r_w r_k) → va_S A s.heap H locs → lv_has ls 10 [(0, .ref c0), (3, .int x3), (4, .int x4), (5, .int x5)] → fL_rooms_b129 N x5 s0 s1 s2 k_148 = some v → W p l e ({ frames := 8, cells := 0, slots := 0, locals := 143 } : Room) s m args below meth c H locs 0 0 (wQi G A below args s (w_C G c0 l0 l1 l2 l3 m0 m1 m2 m3 m4 m5 r0 r1 r2 r3 g0 g_e l_a l_b l_c l_n m_x m_y m_d m_t m_v m_n r_s r_n r_w r_k) 0 0 v) (F0 m 129 ls [.int s2, .int s1, .int s0]) := by
    intro k_148 x3 x4 x5 s0 s1 s2 H locs ls hk_148 hP hD hS hl h
    rw [fL_rooms_b129.eq_1] at h
    refine lv_icmp_ne (tgt := 141) hx hb dL_rooms_129 (by decide) (fun c_820 => ?_) (fun c_820 => ?_)
    · have h := iq c_820 h
      refine lv_iconst (v := 0) hx hb dL_rooms_141 (by decide) ?_
      refine lv_iand hx hb dL_rooms_142 ?_
      refine lv_istore (lv' := [(7, .int (s0 &&& 0)), (0, .ref c0), (3, .int x3), (4, .int x4), (5, .int x5)]) hx hb dL_rooms_143 hl (by decide) rfl (fun ls hl => ?_)
      refine lv_iconst (v := 0) hx hb dL_rooms_145 (by decide) ?_
      refine lv_istore (lv' := [(8, .int 0), (7, .int (s0 &&& 0)), (0, .ref c0), (3, .int x3), (4, .int x4), (5, .int x5)]) hx hb dL_rooms_146 hl (by decide) rfl (fun ls hl => ?_)
      exact hk_148 _ _ _ _ _ hP hD hS (lv_sub hl [2, 3, 4, 1, 0] rfl) h
    · have h := ip c_820 h
      refine lv_iload hx hb dL_rooms_132 (lv_at hl 3 rfl) ?_
      refine lv_if_le (tgt := 141) hx hb dL_rooms_134 (by decide) (fun c_821 => ?_) (fun c_821 => ?_)
      · have h := ip c_821 h
        refine lv_iconst (v := 0) hx hb dL_rooms_141 (by decide) ?_
        refine lv_iand hx hb dL_rooms_142 ?_
        refine lv_istore (lv' := [(7, .int (s0 &&& 0)), (0, .ref c0), (3, .int x3), (4, .int x4), (5, .int x5)]) hx hb dL_rooms_143 hl (by decide) rfl (fun ls hl => ?_)
        refine lv_iconst (v := 0) hx hb dL_rooms_145 (by decide) ?_
        refine lv_istore (lv' := [(8, .int 0), (7, .int (s0 &&& 0)), (0, .ref c0), (3, .int x3), (4, .int x4), (5, .int x5)]) hx hb dL_rooms_146 hl (by decide) rfl (fun ls hl => ?_)
        exact hk_148 _ _ _ _ _ hP hD hS (lv_sub hl [2, 3, 4, 1, 0] rfl) h
      · have h := iq c_821 h
        refine lv_iconst (v := 1) hx hb dL_rooms_137 (by decide) ?_
        refine lv_goto (tgt := 142) hx hb dL_rooms_138 (by decide) ?_
        refine lv_iand hx hb dL_rooms_142 ?_
        refine lv_istore (lv' := [(7, .int (s0 &&& 1)), (0, .ref c0), (3, .int x3), (4, .int x4), (5, .int x5)]) hx hb dL_rooms_143 hl (by decide) rfl (fun ls hl => ?_)
        refine lv_iconst (v := 0) hx hb dL_rooms_145 (by decide) ?_
        refine lv_istore (lv' := [(8, .int 0), (7, .int (s0 &&& 1)), (0, .ref c0), (3, .int x3), (4, .int x4), (5, .int x5)]) hx hb dL_rooms_146 hl (by decide) rfl (fun ls hl => ?_)
        exact hk_148 _ _ _ _ _ hP hD hS (lv_sub hl [2, 3, 4, 1, 0] rfl) h
  have w_195 : ∀ (k_148 : Int32 → Int32 → Option (Int32)) (x3 : Int32) (x4 : Int32) (x8 : Int32)  (s0 : Int32) (s1 : Int32) (s2 : Int32) (H : Heap) (locs : List Loc) (ls : Array Slot), (∀ (y7 : Int32) (y8 : Int32) (H : Heap) (locs : List Loc) (ls : Array Slot), va_P G.1 vwCl (w_C G c0 l0 l1 l2 l3 m0 m1 m2 m3 m4 m5 r0 r1 r2 r3 g0 g_e l_a l_b l_c l_n m_x m_y m_d m_t m_v m_n r_s r_n r_w r_k) H → va_D A (w_C G c0 l0 l1 l2 l3 m0 m1 m2 m3 m4 m5 r0 r1 r2 r3 g0 g_e l_a l_b l_c l_n m_x m_y m_d m_t m_v m_n r_s r_n r_w r_k) → va_S A s.heap H locs → lv_has ls 10 [(0, .ref c0), (3, .int x3), (4, .int x4), (7, .int y7), (8, .int y8)] → k_148 y7 y8 = some v → W p l e ({ frames := 8, cells := 0, slots := 0, locals := 143 } : Room) s m args below meth c H locs 0 0 (wQi G A below args s (w_C G c0 l0 l1 l2 l3 m0 m1 m2 m3 m4 m5 r0 r1 r2 r3 g0 g_e l_a l_b l_c l_n m_x m_y m_d m_t m_v m_n r_s r_n r_w r_k) 0 0 v) (F0 m 148 ls [])) → va_P G.1 vwCl (w_C G c0 l0 l1 l2 l3 m0 m1 m2 m3 m4 m5 r0 r1 r2 r3 g0 g_e l_a l_b l_c l_n m_x m_y m_d m_t m_v m_n r_s r_n r_w r_k) H → va_D A (w_C G c0 l0 l1 l2 l3 m0 m1 m2 m3 m4 m5 r0 r1 r2 r3 g0 g_e l_a l_b l_c l_n m_x m_y m_d m_t m_v m_n r_s r_n r_w r_k) → va_S A s.heap H locs → lv_has ls 10 [(0, .ref c0), (3, .int x3), (4, .int x4), (8, .int x8)] → fL_rooms_b195 N x8 s0 s1 s2 k_148 = some v → W p l e ({ frames := 8, cells := 0, slots := 0, locals := 143 } : Room) s m args below meth c H locs 0 0 (wQi G A below args s (w_C G c0 l0 l1 l2 l3 m0 m1 m2 m3 m4 m5 r0 r1 r2 r3 g0 g_e l_a l_b l_c l_n m_x m_y m_d m_t m_v m_n r_s r_n r_w r_k) 0 0 v) (F0 m 195 ls [.int s2, .int s1, .int s0]) := by
    intro k_148 x3 x4 x8 s0 s1 s2 H locs ls hk_148 hP hD hS hl h
    rw [fL_rooms_b195.eq_1] at h
    refine lv_icmp_ne (tgt := 202) hx hb dL_rooms_195 (by decide) (fun c_822 => ?_) (fun c_822 => ?_)
    · have h := iq c_822 h
      refine lv_iconst (v := 0) hx hb dL_rooms_202 (by decide) ?_
      refine lv_iand hx hb dL_rooms_203 ?_
      refine lv_istore (lv' := [(7, .int (s0 &&& 0)), (0, .ref c0), (3, .int x3), (4, .int x4), (8, .int x8)]) hx hb dL_rooms_204 hl (by decide) rfl (fun ls hl => ?_)
      refine lv_iinc (v := (x8 + 1)) (lv' := [(8, .int (x8 + 1)), (7, .int (s0 &&& 0)), (0, .ref c0), (3, .int x3), (4, .int x4)]) hx hb dL_rooms_206 hl (k := 4) rfl rfl (by decide) rfl (fun ls hl => ?_)
      refine lv_goto (tgt := 148) hx hb dL_rooms_209 (by decide) ?_
      exact hk_148 _ _ _ _ _ hP hD hS (lv_sub hl [2, 3, 4, 1, 0] rfl) h
    · have h := ip c_822 h
      refine lv_iconst (v := 1) hx hb dL_rooms_198 (by decide) ?_
      refine lv_goto (tgt := 203) hx hb dL_rooms_199 (by decide) ?_
      refine lv_iand hx hb dL_rooms_203 ?_
      refine lv_istore (lv' := [(7, .int (s0 &&& 1)), (0, .ref c0), (3, .int x3), (4, .int x4), (8, .int x8)]) hx hb dL_rooms_204 hl (by decide) rfl (fun ls hl => ?_)
      refine lv_iinc (v := (x8 + 1)) (lv' := [(8, .int (x8 + 1)), (7, .int (s0 &&& 1)), (0, .ref c0), (3, .int x3), (4, .int x4)]) hx hb dL_rooms_206 hl (k := 4) rfl rfl (by decide) rfl (fun ls hl => ?_)
      refine lv_goto (tgt := 148) hx hb dL_rooms_209 (by decide) ?_
      exact hk_148 _ _ _ _ _ hP hD hS (lv_sub hl [2, 3, 4, 1, 0] rfl) h
  have w_179 : ∀ (k_148 : Int32 → Int32 → Option (Int32)) (x3 : Int32) (x4 : Int32) (x8 : Int32)  (s0 : Int32) (s1 : Int32) (H : Heap) (locs : List Loc) (ls : Array Slot), (∀ (y7 : Int32) (y8 : Int32) (H : Heap) (locs : List Loc) (ls : Array Slot), va_P G.1 vwCl (w_C G c0 l0 l1 l2 l3 m0 m1 m2 m3 m4 m5 r0 r1 r2 r3 g0 g_e l_a l_b l_c l_n m_x m_y m_d m_t m_v m_n r_s r_n r_w r_k) H → va_D A (w_C G c0 l0 l1 l2 l3 m0 m1 m2 m3 m4 m5 r0 r1 r2 r3 g0 g_e l_a l_b l_c l_n m_x m_y m_d m_t m_v m_n r_s r_n r_w r_k) → va_S A s.heap H locs → lv_has ls 10 [(0, .ref c0), (3, .int x3), (4, .int x4), (7, .int y7), (8, .int y8)] → k_148 y7 y8 = some v → W p l e ({ frames := 8, cells := 0, slots := 0, locals := 143 } : Room) s m args below meth c H locs 0 0 (wQi G A below args s (w_C G c0 l0 l1 l2 l3 m0 m1 m2 m3 m4 m5 r0 r1 r2 r3 g0 g_e l_a l_b l_c l_n m_x m_y m_d m_t m_v m_n r_s r_n r_w r_k) 0 0 v) (F0 m 148 ls [])) → va_P G.1 vwCl (w_C G c0 l0 l1 l2 l3 m0 m1 m2 m3 m4 m5 r0 r1 r2 r3 g0 g_e l_a l_b l_c l_n m_x m_y m_d m_t m_v m_n r_s r_n r_w r_k) H → va_D A (w_C G c0 l0 l1 l2 l3 m0 m1 m2 m3 m4 m5 r0 r1 r2 r3 g0 g_e l_a l_b l_c l_n m_x m_y m_d m_t m_v m_n r_s r_n r_w r_k) → va_S A s.heap H locs → lv_has ls 10 [(0, .ref c0), (3, .int x3), (4, .int x4), (8, .int x8)] → fL_rooms_b179 N x4 x8 s0 s1 k_148 = some v → W p l e ({ frames := 8, cells := 0, slots := 0, locals := 143 } : Room) s m args below meth c H locs 0 0 (wQi G A below args s (w_C G c0 l0 l1 l2 l3 m0 m1 m2 m3 m4 m5 r0 r1 r2 r3 g0 g_e l_a l_b l_c l_n m_x m_y m_d m_t m_v m_n r_s r_n r_w r_k) 0 0 v) (F0 m 179 ls [.int s1, .int s0]) := by
    intro k_148 x3 x4 x8 s0 s1 H locs ls hk_148 hP hD hS hl h
    rw [fL_rooms_b179.eq_1] at h
    refine lv_iload hx hb dL_rooms_179 (lv_at hl 2 rfl) ?_
    refine lv_iload hx hb dL_rooms_181 (lv_at hl 3 rfl) ?_
    refine lv_ishr hx hb dL_rooms_183 ?_
    refine lv_iconst (v := 1) hx hb dL_rooms_184 (by decide) ?_
    refine lv_iand hx hb dL_rooms_185 ?_
    refine lv_iconst (v := 1) hx hb dL_rooms_186 (by decide) ?_
    refine lv_icmp_ne (tgt := 194) hx hb dL_rooms_187 (by decide) (fun c_823 => ?_) (fun c_823 => ?_)
    · have h := iq c_823 h
      refine lv_iconst (v := 0) hx hb dL_rooms_194 (by decide) ?_
      refine w_195 _ _ _ _  _ _ _ _ _ _ (fun x7_824 x8_825 H locs ls hP hD hS hl h => ?_) hP hD hS (lv_sub hl [0, 1, 2, 3] rfl) h
      exact hk_148 _ _ _ _ _ hP hD hS (lv_sub hl [0, 1, 2, 3, 4] rfl) h
    · have h := ip c_823 h
      refine lv_iconst (v := 1) hx hb dL_rooms_190 (by decide) ?_
      refine lv_goto (tgt := 195) hx hb dL_rooms_191 (by decide) ?_
      refine w_195 _ _ _ _  _ _ _ _ _ _ (fun x7_826 x8_827 H locs ls hP hD hS hl h => ?_) hP hD hS (lv_sub hl [0, 1, 2, 3] rfl) h
      exact hk_148 _ _ _ _ _ hP hD hS (lv_sub hl [0, 1, 2, 3, 4] rfl) h
  have w_148 : ∀ (x3 : Int32) (x4 : Int32)  (_z : Unit), ∀ (n : Nat) (x7 : Int32) (x8 : Int32)  (H : Heap) (locs : List Loc) (ls : Array Slot), va_P G.1 vwCl (w_C G c0 l0 l1 l2 l3 m0 m1 m2 m3 m4 m5 r0 r1 r2 r3 g0 g_e l_a l_b l_c l_n m_x m_y m_d m_t m_v m_n r_s r_n r_w r_k) H → va_D A (w_C G c0 l0 l1 l2 l3 m0 m1 m2 m3 m4 m5 r0 r1 r2 r3 g0 g_e l_a l_b l_c l_n m_x m_y m_d m_t m_v m_n r_s r_n r_w r_k) → va_S A s.heap H locs → lv_has ls 10 [(0, .ref c0), (3, .int x3), (4, .int x4), (7, .int x7), (8, .int x8)] → fL_rooms_b148 N r_n x3 x4 n x7 x8 = some v → W p l e ({ frames := 8, cells := 0, slots := 0, locals := 143 } : Room) s m args below meth c H locs 0 0 (wQi G A below args s (w_C G c0 l0 l1 l2 l3 m0 m1 m2 m3 m4 m5 r0 r1 r2 r3 g0 g_e l_a l_b l_c l_n m_x m_y m_d m_t m_v m_n r_s r_n r_w r_k) 0 0 v) (F0 m 148 ls []) := by
    intro x3 x4 _z n
    induction n with
    | zero =>
      intro x7 x8 H locs ls hP hD hS hl h
      rw [fL_rooms_b148.eq_1] at h
      cases h
    | succ n ih =>
      intro x7 x8 H locs ls hP hD hS hl h
      rw [fL_rooms_b148.eq_2] at h
      refine lv_iload hx hb dL_rooms_148 (lv_at hl 4 rfl) ?_
      refine lv_bipush (v := 9) hx hb dL_rooms_150 (by decide) ?_
      refine lv_icmp_ge (tgt := 212) hx hb dL_rooms_152 (by decide) (fun c_828 => ?_) (fun c_828 => ?_)
      · have h := ip c_828 h
        refine lv_iload hx hb dL_rooms_212 (lv_at hl 3 rfl) ?_
        obtain ⟨hz, h⟩ := zo_inv h
        obtain rfl := Option.some.inj h
        exact wrz hx hb hr hlocks hP hD hS (Nat.le_of_ble_eq_true rfl) (Nat.le_of_ble_eq_true rfl) hz rfl dL_rooms_214
      · have h := iq c_828 h
        refine lv_aload_n hx hb dL_rooms_155 rfl (lv_at hl 0 rfl) ?_
        refine lv_iload_n hx hb dL_rooms_156 rfl (lv_at hl 1 rfl) ?_
        refine lv_iconst (v := 1) hx hb dL_rooms_157 (by decide) ?_
        refine lv_iload hx hb dL_rooms_158 (lv_at hl 4 rfl) ?_
        refine lv_ishl hx hb dL_rooms_160 ?_
        refine lv_ixor hx hb dL_rooms_161 ?_
        obtain ⟨u_829, hc_830, h⟩ := bdn_n h
        refine wafter_i (wr := []) (w2 := (w_C G c0 l0 l1 l2 l3 m0 m1 m2 m3 m4 m5 r0 r1 r2 r3 g0 g_e l_a l_b l_c l_n m_x m_y m_d m_t m_v m_n r_s r_n r_w r_k)) (va_runV (As := [.int (x3 ^^^ (1 <<< (x8 &&& 31)))]) (rest := []) ⟨hx, hb, hml, hown, hts⟩ (nX4_roomOf (l := l) (G := G) c0 l0 l1 l2 l3 m0 m1 m2 m3 m4 m5 r0 r1 r2 r3 g0 g_e l_a l_b l_c l_n m_x m_y m_d m_t m_v m_n r_s r_n r_w r_k (x3 ^^^ (1 <<< (x8 &&& 31))) N u_829 hc_830 _) (cwV 1 hts gL_rooms_X4_roomOf rfl rfl rfl (by decide +kernel) ⟨Nat.le_of_ble_eq_true rfl, Nat.le_of_ble_eq_true rfl⟩) (wPreV hP hD hK [0, 1, 2, 3, 4, 5, 6, 7, 8, 9, 10, 11, 12, 13, 14, 15] rfl rfl (ci := 4) (qb := 0) rfl rfl rfl) rfl rfl hl.1 rfl (lv_room (Nat.le_of_ble_eq_true rfl)) dL_rooms_162 ⟨Nat.zero_le _, Nat.zero_le _⟩) hP hD hS hA [0, 1, 2, 3, 4, 5, 6, 7, 8, 9, 10, 11, 12, 13, 14, 15] [] [0, 1, 2, 3, 4, 5, 6, 7, 8, 9, 10, 11, 12, 13, 14, 15] rfl rfl rfl (by decide) rfl rfl (fun H locs hP hD hS => ?_)
        refine lv_istore (lv' := [(9, .int u_829), (0, .ref c0), (3, .int x3), (4, .int x4), (7, .int x7), (8, .int x8)]) hx hb dL_rooms_165 hl (by decide) rfl (fun ls hl => ?_)
        refine lv_iload hx hb dL_rooms_167 (lv_at hl 4 rfl) ?_
        refine lv_iload hx hb dL_rooms_169 (lv_at hl 0 rfl) ?_
        refine lv_if_lt (tgt := 178) hx hb dL_rooms_171 (by decide) (fun c_831 => ?_) (fun c_831 => ?_)
        · have h := ip c_831 h
          refine lv_iconst (v := 0) hx hb dL_rooms_178 (by decide) ?_
          refine w_179 _ _ _ _  _ _ _ _ _ (fun x7_832 x8_833 H locs ls hP hD hS hl h => ?_) hP hD hS (lv_sub hl [1, 2, 3, 5] rfl) h
          exact ih _ _ _ _ _ hP hD hS (lv_sub hl [0, 1, 2, 3, 4] rfl) h
        · have h := iq c_831 h
          refine lv_iconst (v := 1) hx hb dL_rooms_174 (by decide) ?_
          refine lv_goto (tgt := 179) hx hb dL_rooms_175 (by decide) ?_
          refine w_179 _ _ _ _  _ _ _ _ _ (fun x7_834 x8_835 H locs ls hP hD hS hl h => ?_) hP hD hS (lv_sub hl [1, 2, 3, 5] rfl) h
          exact ih _ _ _ _ _ hP hD hS (lv_sub hl [0, 1, 2, 3, 4] rfl) h
  have w_81 : ∀ (x2 : Int32) (x3 : Int32) (x4 : Int32) (x5 : Int32) (x6 : Int32)  (s0 : Int32) (H : Heap) (locs : List Loc) (ls : Array Slot), va_P G.1 vwCl (w_C G c0 l0 l1 l2 l3 m0 m1 m2 m3 m4 m5 r0 r1 r2 r3 g0 g_e l_a l_b l_c l_n m_x m_y m_d m_t m_v m_n r_s r_n r_w r_k) H → va_D A (w_C G c0 l0 l1 l2 l3 m0 m1 m2 m3 m4 m5 r0 r1 r2 r3 g0 g_e l_a l_b l_c l_n m_x m_y m_d m_t m_v m_n r_s r_n r_w r_k) → va_S A s.heap H locs → lv_has ls 10 [(0, .ref c0), (2, .int x2), (3, .int x3), (4, .int x4), (5, .int x5), (6, .int x6)] → fL_rooms_b81 N r_n x2 x3 x4 x5 x6 s0 = some v → W p l e ({ frames := 8, cells := 0, slots := 0, locals := 143 } : Room) s m args below meth c H locs 0 0 (wQi G A below args s (w_C G c0 l0 l1 l2 l3 m0 m1 m2 m3 m4 m5 r0 r1 r2 r3 g0 g_e l_a l_b l_c l_n m_x m_y m_d m_t m_v m_n r_s r_n r_w r_k) 0 0 v) (F0 m 81 ls [.int s0]) := by
    intro x2 x3 x4 x5 x6 s0 H locs ls hP hD hS hl h
    rw [fL_rooms_b81.eq_1] at h
    refine lv_istore (lv' := [(7, .int s0), (0, .ref c0), (2, .int x2), (3, .int x3), (4, .int x4), (5, .int x5), (6, .int x6)]) hx hb dL_rooms_81 hl (by decide) rfl (fun ls hl => ?_)
    refine lv_iload hx hb dL_rooms_83 (lv_at hl 0 rfl) ?_
    refine lv_iload_n hx hb dL_rooms_85 rfl (lv_at hl 2 rfl) ?_
    refine lv_if_ne (tgt := 107) hx hb dL_rooms_86 (by decide) (fun c_836 => ?_) (fun c_836 => ?_)
    · have h := iq c_836 h
      refine lv_iload hx hb dL_rooms_107 (lv_at hl 5 rfl) ?_
      refine lv_iload hx hb dL_rooms_109 (lv_at hl 6 rfl) ?_
      refine lv_if_eq (tgt := 122) hx hb dL_rooms_111 (by decide) (fun c_837 => ?_) (fun c_837 => ?_)
      · have h := ip c_837 h
        refine lv_iload hx hb dL_rooms_122 (lv_at hl 4 rfl) ?_
        obtain ⟨u_838, hc_839, h⟩ := bd_inv h
        refine wafter_i (wr := (w_C G c0 l0 l1 l2 l3 m0 m1 m2 m3 m4 m5 r0 r1 r2 r3 g0 g_e l_a l_b l_c l_n m_x m_y m_d m_t m_v m_n r_s r_n r_w r_k)) (w2 := (w_C G c0 l0 l1 l2 l3 m0 m1 m2 m3 m4 m5 r0 r1 r2 r3 g0 g_e l_a l_b l_c l_n m_x m_y m_d m_t m_v m_n r_s r_n r_w r_k)) (va_runS (As := [.int x4]) (rest := [.int x5, .int s0]) ⟨hx, hb, hml, hown, hts⟩ (kL_size (l := l) (G := G)   x4 N u_838 hc_839 _) (va_cwS 1 hts gL_rooms_L_size rfl rfl rfl (by decide +kernel) ⟨Nat.le_of_ble_eq_true rfl, Nat.le_of_ble_eq_true rfl⟩) (wPreS hP hD hK [] rfl rfl) rfl rfl hl.1 rfl (lv_room (Nat.le_of_ble_eq_true rfl)) dL_rooms_124 ⟨Nat.zero_le _, Nat.zero_le _⟩) hP hD hS hA [] [0, 1, 2, 3, 4, 5, 6, 7, 8, 9, 10, 11, 12, 13, 14, 15] [0, 1, 2, 3, 4, 5, 6, 7, 8, 9, 10, 11, 12, 13, 14, 15] rfl rfl rfl (by decide) rfl rfl (fun H locs hP hD hS => ?_)
        refine lv_iconst (v := 1) hx hb dL_rooms_127 (by decide) ?_
        refine lv_isub hx hb dL_rooms_128 ?_
        refine w_129 _ _ _ _  _ _ _ _ _ _ (fun x7_840 x8_841 H locs ls hP hD hS hl h => ?_) hP hD hS (lv_sub hl [1, 3, 4, 5] rfl) h
        exact w_148  _ _  ()  N _ _  _ _ _ hP hD hS (lv_sub hl [0, 1, 2, 3, 4] rfl) h
      · have h := iq c_837 h
        refine lv_iload hx hb dL_rooms_114 (lv_at hl 4 rfl) ?_
        obtain ⟨u_842, hc_843, h⟩ := bd_inv h
        refine wafter_i (wr := (w_C G c0 l0 l1 l2 l3 m0 m1 m2 m3 m4 m5 r0 r1 r2 r3 g0 g_e l_a l_b l_c l_n m_x m_y m_d m_t m_v m_n r_s r_n r_w r_k)) (w2 := (w_C G c0 l0 l1 l2 l3 m0 m1 m2 m3 m4 m5 r0 r1 r2 r3 g0 g_e l_a l_b l_c l_n m_x m_y m_d m_t m_v m_n r_s r_n r_w r_k)) (va_runS (As := [.int x4]) (rest := [.int x5, .int s0]) ⟨hx, hb, hml, hown, hts⟩ (kL_size (l := l) (G := G)   x4 N u_842 hc_843 _) (va_cwS 1 hts gL_rooms_L_size rfl rfl rfl (by decide +kernel) ⟨Nat.le_of_ble_eq_true rfl, Nat.le_of_ble_eq_true rfl⟩) (wPreS hP hD hK [] rfl rfl) rfl rfl hl.1 rfl (lv_room (Nat.le_of_ble_eq_true rfl)) dL_rooms_116 ⟨Nat.zero_le _, Nat.zero_le _⟩) hP hD hS hA [] [0, 1, 2, 3, 4, 5, 6, 7, 8, 9, 10, 11, 12, 13, 14, 15] [0, 1, 2, 3, 4, 5, 6, 7, 8, 9, 10, 11, 12, 13, 14, 15] rfl rfl rfl (by decide) rfl rfl (fun H locs hP hD hS => ?_)
        refine lv_goto (tgt := 129) hx hb dL_rooms_119 (by decide) ?_
        refine w_129 _ _ _ _  _ _ _ _ _ _ (fun x7_844 x8_845 H locs ls hP hD hS hl h => ?_) hP hD hS (lv_sub hl [1, 3, 4, 5] rfl) h
        exact w_148  _ _  ()  N _ _  _ _ _ hP hD hS (lv_sub hl [0, 1, 2, 3, 4] rfl) h
    · have h := ip c_836 h
      refine lv_iload hx hb dL_rooms_89 (lv_at hl 5 rfl) ?_
      refine lv_if_ne (tgt := 103) hx hb dL_rooms_91 (by decide) (fun c_846 => ?_) (fun c_846 => ?_)
      · have h := iq c_846 h
        refine lv_iconst (v := 0) hx hb dL_rooms_103 (by decide) ?_
        refine lv_goto (tgt := 142) hx hb dL_rooms_104 (by decide) ?_
        refine lv_iand hx hb dL_rooms_142 ?_
        refine lv_istore (lv' := [(7, .int (s0 &&& 0)), (0, .ref c0), (2, .int x2), (3, .int x3), (4, .int x4), (5, .int x5), (6, .int x6)]) hx hb dL_rooms_143 hl (by decide) rfl (fun ls hl => ?_)
        refine lv_iconst (v := 0) hx hb dL_rooms_145 (by decide) ?_
        refine lv_istore (lv' := [(8, .int 0), (7, .int (s0 &&& 0)), (0, .ref c0), (2, .int x2), (3, .int x3), (4, .int x4), (5, .int x5), (6, .int x6)]) hx hb dL_rooms_146 hl (by decide) rfl (fun ls hl => ?_)
        exact w_148  _ _  ()  N _ _  _ _ _ hP hD hS (lv_sub hl [2, 4, 5, 1, 0] rfl) h
      · have h := ip c_846 h
        refine lv_iload hx hb dL_rooms_94 (lv_at hl 6 rfl) ?_
        refine lv_if_ne (tgt := 103) hx hb dL_rooms_96 (by decide) (fun c_847 => ?_) (fun c_847 => ?_)
        · have h := iq c_847 h
          refine lv_iconst (v := 0) hx hb dL_rooms_103 (by decide) ?_
          refine lv_goto (tgt := 142) hx hb dL_rooms_104 (by decide) ?_
          refine lv_iand hx hb dL_rooms_142 ?_
          refine lv_istore (lv' := [(7, .int (s0 &&& 0)), (0, .ref c0), (2, .int x2), (3, .int x3), (4, .int x4), (5, .int x5), (6, .int x6)]) hx hb dL_rooms_143 hl (by decide) rfl (fun ls hl => ?_)
          refine lv_iconst (v := 0) hx hb dL_rooms_145 (by decide) ?_
          refine lv_istore (lv' := [(8, .int 0), (7, .int (s0 &&& 0)), (0, .ref c0), (2, .int x2), (3, .int x3), (4, .int x4), (5, .int x5), (6, .int x6)]) hx hb dL_rooms_146 hl (by decide) rfl (fun ls hl => ?_)
          exact w_148  _ _  ()  N _ _  _ _ _ hP hD hS (lv_sub hl [2, 4, 5, 1, 0] rfl) h
        · have h := ip c_847 h
          refine lv_iconst (v := 1) hx hb dL_rooms_99 (by decide) ?_
          refine lv_goto (tgt := 142) hx hb dL_rooms_100 (by decide) ?_
          refine lv_iand hx hb dL_rooms_142 ?_
          refine lv_istore (lv' := [(7, .int (s0 &&& 1)), (0, .ref c0), (2, .int x2), (3, .int x3), (4, .int x4), (5, .int x5), (6, .int x6)]) hx hb dL_rooms_143 hl (by decide) rfl (fun ls hl => ?_)
          refine lv_iconst (v := 0) hx hb dL_rooms_145 (by decide) ?_
          refine lv_istore (lv' := [(8, .int 0), (7, .int (s0 &&& 1)), (0, .ref c0), (2, .int x2), (3, .int x3), (4, .int x4), (5, .int x5), (6, .int x6)]) hx hb dL_rooms_146 hl (by decide) rfl (fun ls hl => ?_)
          exact w_148  _ _  ()  N _ _  _ _ _ hP hD hS (lv_sub hl [2, 4, 5, 1, 0] rfl) h
  have w_65 : ∀ (k_81 : Int32 → Option (Int32)) (x1 : Int32) (x2 : Int32) (x3 : Int32) (x4 : Int32) (x5 : Int32) (x6 : Int32)   (H : Heap) (locs : List Loc) (ls : Array Slot), (∀ (t0 : Int32) (H : Heap) (locs : List Loc) (ls : Array Slot), va_P G.1 vwCl (w_C G c0 l0 l1 l2 l3 m0 m1 m2 m3 m4 m5 r0 r1 r2 r3 g0 g_e l_a l_b l_c l_n m_x m_y m_d m_t m_v m_n r_s r_n r_w r_k) H → va_D A (w_C G c0 l0 l1 l2 l3 m0 m1 m2 m3 m4 m5 r0 r1 r2 r3 g0 g_e l_a l_b l_c l_n m_x m_y m_d m_t m_v m_n r_s r_n r_w r_k) → va_S A s.heap H locs → lv_has ls 10 [(0, .ref c0), (2, .int x2), (3, .int x3), (4, .int x4), (5, .int x5), (6, .int x6)] → k_81 t0 = some v → W p l e ({ frames := 8, cells := 0, slots := 0, locals := 143 } : Room) s m args below meth c H locs 0 0 (wQi G A below args s (w_C G c0 l0 l1 l2 l3 m0 m1 m2 m3 m4 m5 r0 r1 r2 r3 g0 g_e l_a l_b l_c l_n m_x m_y m_d m_t m_v m_n r_s r_n r_w r_k) 0 0 v) (F0 m 81 ls [.int t0])) → va_P G.1 vwCl (w_C G c0 l0 l1 l2 l3 m0 m1 m2 m3 m4 m5 r0 r1 r2 r3 g0 g_e l_a l_b l_c l_n m_x m_y m_d m_t m_v m_n r_s r_n r_w r_k) H → va_D A (w_C G c0 l0 l1 l2 l3 m0 m1 m2 m3 m4 m5 r0 r1 r2 r3 g0 g_e l_a l_b l_c l_n m_x m_y m_d m_t m_v m_n r_s r_n r_w r_k) → va_S A s.heap H locs → lv_has ls 10 [(0, .ref c0), (1, .int x1), (2, .int x2), (3, .int x3), (4, .int x4), (5, .int x5), (6, .int x6)] → fL_rooms_b65 N m_t m_v m_n r_s r_k x1 x5 k_81 = some v → W p l e ({ frames := 8, cells := 0, slots := 0, locals := 143 } : Room) s m args below meth c H locs 0 0 (wQi G A below args s (w_C G c0 l0 l1 l2 l3 m0 m1 m2 m3 m4 m5 r0 r1 r2 r3 g0 g_e l_a l_b l_c l_n m_x m_y m_d m_t m_v m_n r_s r_n r_w r_k) 0 0 v) (F0 m 65 ls []) := by
    intro k_81 x1 x2 x3 x4 x5 x6 H locs ls hk_81 hP hD hS hl h
    rw [fL_rooms_b65.eq_1] at h
    refine lv_aload_n hx hb dL_rooms_65 rfl (lv_at hl 0 rfl) ?_
    refine lv_iload_n hx hb dL_rooms_66 rfl (lv_at hl 1 rfl) ?_
    refine lv_iload hx hb dL_rooms_67 (lv_at hl 5 rfl) ?_
    obtain ⟨u_848, hc_849, h⟩ := bdn_n h
    refine wafter_i (wr := []) (w2 := (w_C G c0 l0 l1 l2 l3 m0 m1 m2 m3 m4 m5 r0 r1 r2 r3 g0 g_e l_a l_b l_c l_n m_x m_y m_d m_t m_v m_n r_s r_n r_w r_k)) (va_runV (As := [.int x1, .int x5]) (rest := []) ⟨hx, hb, hml, hown, hts⟩ (nX4_corner (l := l) (G := G) c0 l0 l1 l2 l3 m0 m1 m2 m3 m4 m5 r0 r1 r2 r3 g0 g_e l_a l_b l_c l_n m_x m_y m_d m_t m_v m_n r_s r_n r_w r_k x1 x5 N u_848 hc_849 _) (cwV 2 hts gL_rooms_X4_corner rfl rfl rfl (by decide +kernel) ⟨Nat.le_of_ble_eq_true rfl, Nat.le_of_ble_eq_true rfl⟩) (wPreV hP hD hK [0, 1, 2, 3, 4, 5, 6, 7, 8, 9, 10, 11, 12, 13, 14, 15] rfl rfl (ci := 4) (qb := 0) rfl rfl rfl) rfl rfl hl.1 rfl (lv_room (Nat.le_of_ble_eq_true rfl)) dL_rooms_69 ⟨Nat.zero_le _, Nat.zero_le _⟩) hP hD hS hA [0, 1, 2, 3, 4, 5, 6, 7, 8, 9, 10, 11, 12, 13, 14, 15] [] [0, 1, 2, 3, 4, 5, 6, 7, 8, 9, 10, 11, 12, 13, 14, 15] rfl rfl rfl (by decide) rfl rfl (fun H locs hP hD hS => ?_)
    refine lv_iconst (v := (-1)) hx hb dL_rooms_72 (by decide) ?_
    refine lv_icmp_ne (tgt := 80) hx hb dL_rooms_73 (by decide) (fun c_850 => ?_) (fun c_850 => ?_)
    · have h := iq c_850 h
      refine lv_iconst (v := 0) hx hb dL_rooms_80 (by decide) ?_
      exact hk_81 _ _ _ _ hP hD hS (lv_sub hl [0, 2, 3, 4, 5, 6] rfl) h
    · have h := ip c_850 h
      refine lv_iconst (v := 1) hx hb dL_rooms_76 (by decide) ?_
      refine lv_goto (tgt := 81) hx hb dL_rooms_77 (by decide) ?_
      exact hk_81 _ _ _ _ hP hD hS (lv_sub hl [0, 2, 3, 4, 5, 6] rfl) h
  have w_38 : ∀ (x1 : Int32) (x2 : Int32) (x3 : Int32) (x4 : Int32) (x5 : Int32)  (s0 : Int32) (H : Heap) (locs : List Loc) (ls : Array Slot), va_P G.1 vwCl (w_C G c0 l0 l1 l2 l3 m0 m1 m2 m3 m4 m5 r0 r1 r2 r3 g0 g_e l_a l_b l_c l_n m_x m_y m_d m_t m_v m_n r_s r_n r_w r_k) H → va_D A (w_C G c0 l0 l1 l2 l3 m0 m1 m2 m3 m4 m5 r0 r1 r2 r3 g0 g_e l_a l_b l_c l_n m_x m_y m_d m_t m_v m_n r_s r_n r_w r_k) → va_S A s.heap H locs → lv_has ls 10 [(0, .ref c0), (1, .int x1), (2, .int x2), (3, .int x3), (4, .int x4), (5, .int x5)] → fL_rooms_b38 N l_a l_b l_n m_t m_v m_n r_s r_n r_k x1 x2 x3 x4 x5 s0 = some v → W p l e ({ frames := 8, cells := 0, slots := 0, locals := 143 } : Room) s m args below meth c H locs 0 0 (wQi G A below args s (w_C G c0 l0 l1 l2 l3 m0 m1 m2 m3 m4 m5 r0 r1 r2 r3 g0 g_e l_a l_b l_c l_n m_x m_y m_d m_t m_v m_n r_s r_n r_w r_k) 0 0 v) (F0 m 38 ls [.int s0]) := by
    intro x1 x2 x3 x4 x5 s0 H locs ls hP hD hS hl h
    rw [fL_rooms_b38.eq_1] at h
    refine lv_istore (lv' := [(6, .int s0), (0, .ref c0), (1, .int x1), (2, .int x2), (3, .int x3), (4, .int x4), (5, .int x5)]) hx hb dL_rooms_38 hl (by decide) rfl (fun ls hl => ?_)
    refine lv_aload_n hx hb dL_rooms_40 rfl (lv_at hl 1 rfl) ?_
    refine lv_iload_n hx hb dL_rooms_41 rfl (lv_at hl 4 rfl) ?_
    obtain ⟨u_851, hc_852, h⟩ := bdn_n h
    refine wafter_i (wr := []) (w2 := (w_C G c0 l0 l1 l2 l3 m0 m1 m2 m3 m4 m5 r0 r1 r2 r3 g0 g_e l_a l_b l_c l_n m_x m_y m_d m_t m_v m_n r_s r_n r_w r_k)) (va_runV (As := [.int x3]) (rest := []) ⟨hx, hb, hml, hown, hts⟩ (nX4_roomOf (l := l) (G := G) c0 l0 l1 l2 l3 m0 m1 m2 m3 m4 m5 r0 r1 r2 r3 g0 g_e l_a l_b l_c l_n m_x m_y m_d m_t m_v m_n r_s r_n r_w r_k x3 N u_851 hc_852 _) (cwV 1 hts gL_rooms_X4_roomOf rfl rfl rfl (by decide +kernel) ⟨Nat.le_of_ble_eq_true rfl, Nat.le_of_ble_eq_true rfl⟩) (wPreV hP hD hK [0, 1, 2, 3, 4, 5, 6, 7, 8, 9, 10, 11, 12, 13, 14, 15] rfl rfl (ci := 4) (qb := 0) rfl rfl rfl) rfl rfl hl.1 rfl (lv_room (Nat.le_of_ble_eq_true rfl)) dL_rooms_42 ⟨Nat.zero_le _, Nat.zero_le _⟩) hP hD hS hA [0, 1, 2, 3, 4, 5, 6, 7, 8, 9, 10, 11, 12, 13, 14, 15] [] [0, 1, 2, 3, 4, 5, 6, 7, 8, 9, 10, 11, 12, 13, 14, 15] rfl rfl rfl (by decide) rfl rfl (fun H locs hP hD hS => ?_)
    refine lv_iload_n hx hb dL_rooms_45 rfl (lv_at hl 2 rfl) ?_
    refine lv_icmp_ne (tgt := 80) hx hb dL_rooms_46 (by decide) (fun c_853 => ?_) (fun c_853 => ?_)
    · have h := iq c_853 h
      refine lv_iconst (v := 0) hx hb dL_rooms_80 (by decide) ?_
      exact w_81  _ _ _ _ _  _ _ _ _  hP hD hS (lv_sub hl [1, 3, 4, 5, 6, 0] rfl) h
    · have h := ip c_853 h
      refine lv_iload_n hx hb dL_rooms_49 rfl (lv_at hl 2 rfl) ?_
      refine lv_if_eq (tgt := 65) hx hb dL_rooms_50 (by decide) (fun c_854 => ?_) (fun c_854 => ?_)
      · have h := ip c_854 h
        refine w_65 _ _ _ _ _ _ _   _ _ _ (fun s_855 H locs ls hP hD hS hl h => ?_) hP hD hS (lv_sub hl [1, 2, 3, 4, 5, 6, 0] rfl) h
        exact w_81  _ _ _ _ _  _ _ _ _  hP hD hS (lv_sub hl [0, 1, 2, 3, 4, 5] rfl) h
      · have h := iq c_854 h
        refine lv_aload_n hx hb dL_rooms_53 rfl (lv_at hl 1 rfl) ?_
        refine lv_iload_n hx hb dL_rooms_54 rfl (lv_at hl 2 rfl) ?_
        refine lv_iconst (v := 1) hx hb dL_rooms_55 (by decide) ?_
        refine lv_isub hx hb dL_rooms_56 ?_
        refine lv_iconst (v := 0) hx hb dL_rooms_57 (by decide) ?_
        obtain ⟨u_856, hc_857, h⟩ := bdn_n h
        refine wafter_i (wr := []) (w2 := (w_C G c0 l0 l1 l2 l3 m0 m1 m2 m3 m4 m5 r0 r1 r2 r3 g0 g_e l_a l_b l_c l_n m_x m_y m_d m_t m_v m_n r_s r_n r_w r_k)) (va_runV (As := [.int (x1 - 1), .int 0]) (rest := []) ⟨hx, hb, hml, hown, hts⟩ (nX4_room (l := l) (G := G) c0 l0 l1 l2 l3 m0 m1 m2 m3 m4 m5 r0 r1 r2 r3 g0 g_e l_a l_b l_c l_n m_x m_y m_d m_t m_v m_n r_s r_n r_w r_k (x1 - 1) 0 N u_856 hc_857 _) (cwV 2 hts gL_rooms_X4_room rfl rfl rfl (by decide +kernel) ⟨Nat.le_of_ble_eq_true rfl, Nat.le_of_ble_eq_true rfl⟩) (wPreV hP hD hK [0, 1, 2, 3, 4, 5, 6, 7, 8, 9, 10, 11, 12, 13, 14, 15] rfl rfl (ci := 4) (qb := 0) rfl rfl rfl) rfl rfl hl.1 rfl (lv_room (Nat.le_of_ble_eq_true rfl)) dL_rooms_58 ⟨Nat.zero_le _, Nat.zero_le _⟩) hP hD hS hA [0, 1, 2, 3, 4, 5, 6, 7, 8, 9, 10, 11, 12, 13, 14, 15] [] [0, 1, 2, 3, 4, 5, 6, 7, 8, 9, 10, 11, 12, 13, 14, 15] rfl rfl rfl (by decide) rfl rfl (fun H locs hP hD hS => ?_)
        refine lv_iload_n hx hb dL_rooms_61 rfl (lv_at hl 4 rfl) ?_
        refine lv_icmp_ge (tgt := 80) hx hb dL_rooms_62 (by decide) (fun c_858 => ?_) (fun c_858 => ?_)
        · have h := ip c_858 h
          refine lv_iconst (v := 0) hx hb dL_rooms_80 (by decide) ?_
          exact w_81  _ _ _ _ _  _ _ _ _  hP hD hS (lv_sub hl [1, 3, 4, 5, 6, 0] rfl) h
        · have h := iq c_858 h
          refine w_65 _ _ _ _ _ _ _   _ _ _ (fun s_859 H locs ls hP hD hS hl h => ?_) hP hD hS (lv_sub hl [1, 2, 3, 4, 5, 6, 0] rfl) h
          exact w_81  _ _ _ _ _  _ _ _ _  hP hD hS (lv_sub hl [0, 1, 2, 3, 4, 5] rfl) h
  rw [fL_rooms.eq_1] at h
  refine lv_aload_n hx hb dL_rooms_0 rfl (lv_at hl 0 rfl) ?_
  refine lv_iload_n hx hb dL_rooms_1 rfl (lv_at hl 1 rfl) ?_
  refine lv_iconst (v := 0) hx hb dL_rooms_2 (by decide) ?_
  obtain ⟨u_860, hc_861, h⟩ := bdn_n h
  refine wafter_i (wr := []) (w2 := (w_C G c0 l0 l1 l2 l3 m0 m1 m2 m3 m4 m5 r0 r1 r2 r3 g0 g_e l_a l_b l_c l_n m_x m_y m_d m_t m_v m_n r_s r_n r_w r_k)) (va_runV (As := [.int x1, .int 0]) (rest := []) ⟨hx, hb, hml, hown, hts⟩ (nX4_room (l := l) (G := G) c0 l0 l1 l2 l3 m0 m1 m2 m3 m4 m5 r0 r1 r2 r3 g0 g_e l_a l_b l_c l_n m_x m_y m_d m_t m_v m_n r_s r_n r_w r_k x1 0 N u_860 hc_861 _) (cwV 2 hts gL_rooms_X4_room rfl rfl rfl (by decide +kernel) ⟨Nat.le_of_ble_eq_true rfl, Nat.le_of_ble_eq_true rfl⟩) (wPreV hP hD hK [0, 1, 2, 3, 4, 5, 6, 7, 8, 9, 10, 11, 12, 13, 14, 15] rfl rfl (ci := 4) (qb := 0) rfl rfl rfl) rfl rfl hl.1 rfl (lv_room (Nat.le_of_ble_eq_true rfl)) dL_rooms_3 ⟨Nat.zero_le _, Nat.zero_le _⟩) hP hD hS hA [0, 1, 2, 3, 4, 5, 6, 7, 8, 9, 10, 11, 12, 13, 14, 15] [] [0, 1, 2, 3, 4, 5, 6, 7, 8, 9, 10, 11, 12, 13, 14, 15] rfl rfl rfl (by decide) rfl rfl (fun H locs hP hD hS => ?_)
  refine lv_istore_n (lv' := [(3, .int u_860), (0, .ref c0), (1, .int x1), (2, .int x2)]) hx hb dL_rooms_6 rfl hl (by decide) rfl (fun ls hl => ?_)
  refine lv_aload_n hx hb dL_rooms_7 rfl (lv_at hl 1 rfl) ?_
  refine lv_iload_n hx hb dL_rooms_8 rfl (lv_at hl 2 rfl) ?_
  refine lv_iconst (v := 2) hx hb dL_rooms_9 (by decide) ?_
  obtain ⟨u_862, hc_863, h⟩ := bdn_n h
  refine wafter_i (wr := []) (w2 := (w_C G c0 l0 l1 l2 l3 m0 m1 m2 m3 m4 m5 r0 r1 r2 r3 g0 g_e l_a l_b l_c l_n m_x m_y m_d m_t m_v m_n r_s r_n r_w r_k)) (va_runV (As := [.int x1, .int 2]) (rest := []) ⟨hx, hb, hml, hown, hts⟩ (nX4_room (l := l) (G := G) c0 l0 l1 l2 l3 m0 m1 m2 m3 m4 m5 r0 r1 r2 r3 g0 g_e l_a l_b l_c l_n m_x m_y m_d m_t m_v m_n r_s r_n r_w r_k x1 2 N u_862 hc_863 _) (cwV 2 hts gL_rooms_X4_room rfl rfl rfl (by decide +kernel) ⟨Nat.le_of_ble_eq_true rfl, Nat.le_of_ble_eq_true rfl⟩) (wPreV hP hD hK [0, 1, 2, 3, 4, 5, 6, 7, 8, 9, 10, 11, 12, 13, 14, 15] rfl rfl (ci := 4) (qb := 0) rfl rfl rfl) rfl rfl hl.1 rfl (lv_room (Nat.le_of_ble_eq_true rfl)) dL_rooms_10 ⟨Nat.zero_le _, Nat.zero_le _⟩) hP hD hS hA [0, 1, 2, 3, 4, 5, 6, 7, 8, 9, 10, 11, 12, 13, 14, 15] [] [0, 1, 2, 3, 4, 5, 6, 7, 8, 9, 10, 11, 12, 13, 14, 15] rfl rfl rfl (by decide) rfl rfl (fun H locs hP hD hS => ?_)
  refine lv_istore (lv' := [(4, .int u_862), (3, .int u_860), (0, .ref c0), (1, .int x1), (2, .int x2)]) hx hb dL_rooms_13 hl (by decide) rfl (fun ls hl => ?_)
  refine lv_aload_n hx hb dL_rooms_15 rfl (lv_at hl 2 rfl) ?_
  refine lv_iload_n hx hb dL_rooms_16 rfl (lv_at hl 3 rfl) ?_
  refine lv_iconst (v := 3) hx hb dL_rooms_17 (by decide) ?_
  obtain ⟨u_864, hc_865, h⟩ := bdn_n h
  refine wafter_i (wr := []) (w2 := (w_C G c0 l0 l1 l2 l3 m0 m1 m2 m3 m4 m5 r0 r1 r2 r3 g0 g_e l_a l_b l_c l_n m_x m_y m_d m_t m_v m_n r_s r_n r_w r_k)) (va_runV (As := [.int x1, .int 3]) (rest := []) ⟨hx, hb, hml, hown, hts⟩ (nX4_room (l := l) (G := G) c0 l0 l1 l2 l3 m0 m1 m2 m3 m4 m5 r0 r1 r2 r3 g0 g_e l_a l_b l_c l_n m_x m_y m_d m_t m_v m_n r_s r_n r_w r_k x1 3 N u_864 hc_865 _) (cwV 2 hts gL_rooms_X4_room rfl rfl rfl (by decide +kernel) ⟨Nat.le_of_ble_eq_true rfl, Nat.le_of_ble_eq_true rfl⟩) (wPreV hP hD hK [0, 1, 2, 3, 4, 5, 6, 7, 8, 9, 10, 11, 12, 13, 14, 15] rfl rfl (ci := 4) (qb := 0) rfl rfl rfl) rfl rfl hl.1 rfl (lv_room (Nat.le_of_ble_eq_true rfl)) dL_rooms_18 ⟨Nat.zero_le _, Nat.zero_le _⟩) hP hD hS hA [0, 1, 2, 3, 4, 5, 6, 7, 8, 9, 10, 11, 12, 13, 14, 15] [] [0, 1, 2, 3, 4, 5, 6, 7, 8, 9, 10, 11, 12, 13, 14, 15] rfl rfl rfl (by decide) rfl rfl (fun H locs hP hD hS => ?_)
  refine lv_istore (lv' := [(5, .int u_864), (4, .int u_862), (3, .int u_860), (0, .ref c0), (1, .int x1), (2, .int x2)]) hx hb dL_rooms_21 hl (by decide) rfl (fun ls hl => ?_)
  refine lv_aload_n hx hb dL_rooms_23 rfl (lv_at hl 3 rfl) ?_
  refine lv_iload_n hx hb dL_rooms_24 rfl (lv_at hl 4 rfl) ?_
  refine lv_iconst (v := 1) hx hb dL_rooms_25 (by decide) ?_
  obtain ⟨u_866, hc_867, h⟩ := bdn_n h
  refine wafter_i (wr := []) (w2 := (w_C G c0 l0 l1 l2 l3 m0 m1 m2 m3 m4 m5 r0 r1 r2 r3 g0 g_e l_a l_b l_c l_n m_x m_y m_d m_t m_v m_n r_s r_n r_w r_k)) (va_runV (As := [.int x1, .int 1]) (rest := []) ⟨hx, hb, hml, hown, hts⟩ (nX4_room (l := l) (G := G) c0 l0 l1 l2 l3 m0 m1 m2 m3 m4 m5 r0 r1 r2 r3 g0 g_e l_a l_b l_c l_n m_x m_y m_d m_t m_v m_n r_s r_n r_w r_k x1 1 N u_866 hc_867 _) (cwV 2 hts gL_rooms_X4_room rfl rfl rfl (by decide +kernel) ⟨Nat.le_of_ble_eq_true rfl, Nat.le_of_ble_eq_true rfl⟩) (wPreV hP hD hK [0, 1, 2, 3, 4, 5, 6, 7, 8, 9, 10, 11, 12, 13, 14, 15] rfl rfl (ci := 4) (qb := 0) rfl rfl rfl) rfl rfl hl.1 rfl (lv_room (Nat.le_of_ble_eq_true rfl)) dL_rooms_26 ⟨Nat.zero_le _, Nat.zero_le _⟩) hP hD hS hA [0, 1, 2, 3, 4, 5, 6, 7, 8, 9, 10, 11, 12, 13, 14, 15] [] [0, 1, 2, 3, 4, 5, 6, 7, 8, 9, 10, 11, 12, 13, 14, 15] rfl rfl rfl (by decide) rfl rfl (fun H locs hP hD hS => ?_)
  refine lv_iconst (v := 1) hx hb dL_rooms_29 (by decide) ?_
  refine lv_icmp_ne (tgt := 37) hx hb dL_rooms_30 (by decide) (fun c_868 => ?_) (fun c_868 => ?_)
  · have h := iq c_868 h
    refine lv_iconst (v := 0) hx hb dL_rooms_37 (by decide) ?_
    exact w_38  _ _ _ _ _  _ _ _ _  hP hD hS (lv_sub hl [3, 4, 5, 2, 1, 0] rfl) h
  · have h := ip c_868 h
    refine lv_iconst (v := 1) hx hb dL_rooms_33 (by decide) ?_
    refine lv_goto (tgt := 38) hx hb dL_rooms_34 (by decide) ?_
    exact w_38  _ _ _ _ _  _ _ _ _  hP hD hS (lv_sub hl [3, 4, 5, 2, 1, 0] rfl) h
def fL_galleries_b146 (N : Nat) (l_a : Nat → Int32) (l_b : Nat → Int32) (l_n : Int32) (m_t : Nat → Int32) (m_v : Nat → Int32) (m_n : Int32) (r_s : Nat → Int32) (r_n : Nat → Int32) (r_k : Int32) (x2 : Int32) (x3 : Int32) (x8 : Int32) (x6 : Int32) (s0 : Int32) (s1 : Int32) (k_84 : Int32 → Int32 → Int32 → Option (Int32 × (Nat → Int32))) : Option (Int32 × (Nat → Int32)) := if s0 = s1 then bdn (fX4_room N l_a l_b l_n m_t m_v m_n r_s r_n r_k x2 0) (fun u_870 => bd (fL_size N (x8 ^^^ u_870)) (fun u_872 => if u_872 = (x3 - x6) then k_84 1 x8 (x6 + 1) else k_84 0 x8 (x6 + 1))) else k_84 0 x8 (x6 + 1)
def fL_galleries_b121 (N : Nat) (l_a : Nat → Int32) (l_b : Nat → Int32) (l_n : Int32) (m_t : Nat → Int32) (m_v : Nat → Int32) (m_n : Int32) (r_s : Nat → Int32) (r_n : Nat → Int32) (r_k : Int32) (x2 : Int32) (x3 : Int32) (x7 : Int32) (x5 : Int32) (x6 : Int32) (s0 : Int32) (k_84 : Int32 → Int32 → Int32 → Option (Int32 × (Nat → Int32))) : Option (Int32 × (Nat → Int32)) := if x7 < 0 then k_84 0 s0 (x6 + 1) else bd (fL_size N (x5 ^^^ s0)) (fun u_876 => if x6 = 0 then fL_galleries_b146 N l_a l_b l_n m_t m_v m_n r_s r_n r_k x2 x3 s0 x6 u_876 0 (fun (x4_882 : Int32) (x5_883 : Int32) (x6_884 : Int32) => k_84 x4_882 x5_883 x6_884) else fL_galleries_b146 N l_a l_b l_n m_t m_v m_n r_s r_n r_k x2 x3 s0 x6 u_876 1 (fun (x4_879 : Int32) (x5_880 : Int32) (x6_881 : Int32) => k_84 x4_879 x5_880 x6_881))
def fL_galleries_b84 (N : Nat) (l_a : Nat → Int32) (l_b : Nat → Int32) (l_n : Int32) (m_t : Nat → Int32) (m_v : Nat → Int32) (m_n : Int32) (r_s : Nat → Int32) (r_n : Nat → Int32) (r_w : Nat → Int32) (r_k : Int32) (x1 : Int32) (x2 : Int32) (x3 : Int32) : Nat → Int32 → Int32 → Int32 → Option (Int32 × (Nat → Int32))
  | 0, _, _, _ => none
  | n + 1, x4, x5, x6 => if x3 < x6 then zo x4 (some (x4, r_w)) else if x4 = 0 then zo x4 (some (x4, r_w)) else bdn (fX4_gallery N r_s r_n r_k x1 x2 x6) (fun u_887 => if 0 ≤ u_887 then bdn (fX4_room N l_a l_b l_n m_t m_v m_n r_s r_n r_k u_887 0) (fun u_890 => fL_galleries_b121 N l_a l_b l_n m_t m_v m_n r_s r_n r_k x2 x3 u_887 x5 x6 u_890 (fun (x4_892 : Int32) (x5_893 : Int32) (x6_894 : Int32) => fL_galleries_b84 N l_a l_b l_n m_t m_v m_n r_s r_n r_w r_k x1 x2 x3 n x4_892 x5_893 x6_894)) else fL_galleries_b121 N l_a l_b l_n m_t m_v m_n r_s r_n r_k x2 x3 u_887 x5 x6 (-1) (fun (x4_895 : Int32) (x5_896 : Int32) (x6_897 : Int32) => fL_galleries_b84 N l_a l_b l_n m_t m_v m_n r_s r_n r_w r_k x1 x2 x3 n x4_895 x5_896 x6_897))
def fL_galleries_b71 (N : Nat) (l_a : Nat → Int32) (l_b : Nat → Int32) (l_n : Int32) (m_t : Nat → Int32) (m_v : Nat → Int32) (m_n : Int32) (r_s : Nat → Int32) (r_n : Nat → Int32) (r_w : Nat → Int32) (r_k : Int32) (x1 : Int32) (x2 : Int32) (x3 : Int32) (s0 : Int32) : Option (Int32 × (Nat → Int32)) := bdn (fX4_room N l_a l_b l_n m_t m_v m_n r_s r_n r_k x1 0) (fun u_898 => fL_galleries_b84 N l_a l_b l_n m_t m_v m_n r_s r_n r_w r_k x1 x2 x3 N s0 u_898 0)
def fL_galleries (N : Nat) (l_a : Nat → Int32) (l_b : Nat → Int32) (l_n : Int32) (m_t : Nat → Int32) (m_v : Nat → Int32) (m_n : Int32) (r_s : Nat → Int32) (r_n : Nat → Int32) (r_w : Nat → Int32) (r_k : Int32) (x1 : Int32) (x2 : Int32) : Option (Int32 × (Nat → Int32)) := bdn (fX4_room N l_a l_b l_n m_t m_v m_n r_s r_n r_k x1 0) (fun u_900 => bdn (fX4_room N l_a l_b l_n m_t m_v m_n r_s r_n r_k x2 0) (fun u_902 => bd (fL_size N (u_900 ^^^ u_902)) (fun u_904 => bdn (fX4_galleries N r_s r_n r_w r_k x1 x2) (fun u_906 => bdn (fX4_galleries N r_s r_n u_906.2 r_k x2 x1) (fun u_908 => if u_906.1 = u_908.1 then bdn (fX4_galleries N r_s r_n u_908.2 r_k x1 x2) (fun u_911 => if u_911.1 < 1 then fL_galleries_b71 N l_a l_b l_n m_t m_v m_n r_s r_n u_911.2 r_k x1 x2 u_904 0 else bdn (fX4_gallery N r_s r_n r_k x1 x2 u_904) (fun u_914 => if u_914 = x2 then bdn (fX4_gallery N r_s r_n r_k x1 x2 (u_904 + 1)) (fun u_917 => if u_917 = (-1) then fL_galleries_b71 N l_a l_b l_n m_t m_v m_n r_s r_n u_911.2 r_k x1 x2 u_904 1 else fL_galleries_b71 N l_a l_b l_n m_t m_v m_n r_s r_n u_911.2 r_k x1 x2 u_904 0) else fL_galleries_b71 N l_a l_b l_n m_t m_v m_n r_s r_n u_911.2 r_k x1 x2 u_904 0)) else fL_galleries_b71 N l_a l_b l_n m_t m_v m_n r_s r_n u_908.2 r_k x1 x2 u_904 0)))))
set_option maxHeartbeats 4000000 in
set_option maxRecDepth 100000 in
theorem kL_galleries {l : Launch} {G : wG} (c0 l0 l1 l2 l3 m0 m1 m2 m3 m4 m5 r0 r1 r2 r3 g0 : Nat) (g_e : Int64) (l_a : Nat → Int32) (l_b : Nat → Int32) (l_c : Nat → Int32) (l_n : Int32) (m_x : Nat → Int32) (m_y : Nat → Int32) (m_d : Nat → Int32) (m_t : Nat → Int32) (m_v : Nat → Int32) (m_n : Int32) (r_s : Nat → Int32) (r_n : Nat → Int32) (r_w : Nat → Int32) (r_k : Int32) (x1 : Int32) (x2 : Int32) (N : Nat) (v : Int32 × (Nat → Int32)) (h : fL_galleries N l_a l_b l_n m_t m_v m_n r_s r_n r_w r_k x1 x2 = some v) : wCi l G yL_galleries wsL_galleries ({ frames := 8, cells := 0, slots := 0, locals := 144 } : Room) [.ref c0, .int x1, .int x2] (w_C G c0 l0 l1 l2 l3 m0 m1 m2 m3 m4 m5 r0 r1 r2 r3 g0 g_e l_a l_b l_c l_n m_x m_y m_d m_t m_v m_n r_s r_n r_w r_k) (w_C G c0 l0 l1 l2 l3 m0 m1 m2 m3 m4 m5 r0 r1 r2 r3 g0 g_e l_a l_b l_c l_n m_x m_y m_d m_t m_v m_n r_s r_n v.2 r_k) 0 0 v.1 := by
  refine wCi.mk (cc := cL_galleries) (maxL := 9) (ty := .boolean) (by decide) rfl (Nat.le_of_ble_eq_true rfl) ?_
  intro p e s m below meth c A ls hx hb hml hr hlocks hts hown hK hA hP hD hl
  have hx : p.tables.exec = Jvm.exec := hx
  have hown : s.vm.findClass RL = some m.cls := hown
  have hS : va_S A s.heap s.heap [] := va_S.rf
  have hP : va_P G.1 vwCl (w_C G c0 l0 l1 l2 l3 m0 m1 m2 m3 m4 m5 r0 r1 r2 r3 g0 g_e l_a l_b l_c l_n m_x m_y m_d m_t m_v m_n r_s r_n r_w r_k) s.heap := hP
  have hD : va_D A (w_C G c0 l0 l1 l2 l3 m0 m1 m2 m3 m4 m5 r0 r1 r2 r3 g0 g_e l_a l_b l_c l_n m_x m_y m_d m_t m_v m_n r_s r_n r_w r_k) := hD
  have hl : lv_has ls 9 [(0, .ref c0), (1, .int x1), (2, .int x2)] := hl
  obtain ⟨args, hargs⟩ : ∃ z : Array Value, z = ([.ref c0, .int x1, .int x2] : List Value).toArray := ⟨_, rfl⟩
  rw [← hargs]
  rw [← hargs] at hts
  have w_146 : ∀ (k_84 : Int32 → Int32 → Int32 → Option (Int32 × (Nat → Int32))) (x1 : Int32) (x2 : Int32) (x3 : Int32) (x6 : Int32) (x8 : Int32) (r_w : Nat → Int32) (s0 : Int32) (s1 : Int32) (H : Heap) (locs : List Loc) (ls : Array Slot), (∀ (y4 : Int32) (y5 : Int32) (y6 : Int32) (H : Heap) (locs : List Loc) (ls : Array Slot), va_P G.1 vwCl (w_C G c0 l0 l1 l2 l3 m0 m1 m2 m3 m4 m5 r0 r1 r2 r3 g0 g_e l_a l_b l_c l_n m_x m_y m_d m_t m_v m_n r_s r_n r_w r_k) H → va_D A (w_C G c0 l0 l1 l2 l3 m0 m1 m2 m3 m4 m5 r0 r1 r2 r3 g0 g_e l_a l_b l_c l_n m_x m_y m_d m_t m_v m_n r_s r_n r_w r_k) → va_S A s.heap H locs → lv_has ls 9 [(0, .ref c0), (1, .int x1), (2, .int x2), (3, .int x3), (4, .int y4), (5, .int y5), (6, .int y6)] → k_84 y4 y5 y6 = some v → W p l e ({ frames := 8, cells := 0, slots := 0, locals := 144 } : Room) s m args below meth c H locs 0 0 (wQi G A below args s (w_C G c0 l0 l1 l2 l3 m0 m1 m2 m3 m4 m5 r0 r1 r2 r3 g0 g_e l_a l_b l_c l_n m_x m_y m_d m_t m_v m_n r_s r_n v.2 r_k) 0 0 v.1) (F0 m 84 ls [])) → va_P G.1 vwCl (w_C G c0 l0 l1 l2 l3 m0 m1 m2 m3 m4 m5 r0 r1 r2 r3 g0 g_e l_a l_b l_c l_n m_x m_y m_d m_t m_v m_n r_s r_n r_w r_k) H → va_D A (w_C G c0 l0 l1 l2 l3 m0 m1 m2 m3 m4 m5 r0 r1 r2 r3 g0 g_e l_a l_b l_c l_n m_x m_y m_d m_t m_v m_n r_s r_n r_w r_k) → va_S A s.heap H locs → lv_has ls 9 [(0, .ref c0), (1, .int x1), (2, .int x2), (3, .int x3), (6, .int x6), (8, .int x8)] → fL_galleries_b146 N l_a l_b l_n m_t m_v m_n r_s r_n r_k x2 x3 x8 x6 s0 s1 k_84 = some v → W p l e ({ frames := 8, cells := 0, slots := 0, locals := 144 } : Room) s m args below meth c H locs 0 0 (wQi G A below args s (w_C G c0 l0 l1 l2 l3 m0 m1 m2 m3 m4 m5 r0 r1 r2 r3 g0 g_e l_a l_b l_c l_n m_x m_y m_d m_t m_v m_n r_s r_n v.2 r_k) 0 0 v.1) (F0 m 146 ls [.int s1, .int s0]) := by
    intro k_84 x1 x2 x3 x6 x8 r_w s0 s1 H locs ls hk_84 hP hD hS hl h
    rw [fL_galleries_b146.eq_1] at h
    refine lv_icmp_ne (tgt := 172) hx hb dL_galleries_146 (by decide) (fun c_869 => ?_) (fun c_869 => ?_)
    · have h := iq c_869 h
      refine lv_iconst (v := 0) hx hb dL_galleries_172 (by decide) ?_
      refine lv_istore (lv' := [(4, .int 0), (0, .ref c0), (1, .int x1), (2, .int x2), (3, .int x3), (6, .int x6), (8, .int x8)]) hx hb dL_galleries_173 hl (by decide) rfl (fun ls hl => ?_)
      refine lv_iload hx hb dL_galleries_175 (lv_at hl 6 rfl) ?_
      refine lv_istore (lv' := [(5, .int x8), (4, .int 0), (0, .ref c0), (1, .int x1), (2, .int x2), (3, .int x3), (6, .int x6), (8, .int x8)]) hx hb dL_galleries_177 hl (by decide) rfl (fun ls hl => ?_)
      refine lv_iinc (v := (x6 + 1)) (lv' := [(6, .int (x6 + 1)), (5, .int x8), (4, .int 0), (0, .ref c0), (1, .int x1), (2, .int x2), (3, .int x3), (8, .int x8)]) hx hb dL_galleries_179 hl (k := 6) rfl rfl (by decide) rfl (fun ls hl => ?_)
      refine lv_goto (tgt := 84) hx hb dL_galleries_182 (by decide) ?_
      exact hk_84 _ _ _ _ _ _ hP hD hS (lv_sub hl [3, 4, 5, 6, 2, 1, 0] rfl) h
    · have h := ip c_869 h
      refine lv_iload hx hb dL_galleries_149 (lv_at hl 5 rfl) ?_
      refine lv_aload_n hx hb dL_galleries_151 rfl (lv_at hl 0 rfl) ?_
      refine lv_iload_n hx hb dL_galleries_152 rfl (lv_at hl 2 rfl) ?_
      refine lv_iconst (v := 0) hx hb dL_galleries_153 (by decide) ?_
      obtain ⟨u_870, hc_871, h⟩ := bdn_n h
      refine wafter_i (wr := []) (w2 := (w_C G c0 l0 l1 l2 l3 m0 m1 m2 m3 m4 m5 r0 r1 r2 r3 g0 g_e l_a l_b l_c l_n m_x m_y m_d m_t m_v m_n r_s r_n r_w r_k)) (va_runV (As := [.int x2, .int 0]) (rest := [.int x8]) ⟨hx, hb, hml, hown, hts⟩ (nX4_room (l := l) (G := G) c0 l0 l1 l2 l3 m0 m1 m2 m3 m4 m5 r0 r1 r2 r3 g0 g_e l_a l_b l_c l_n m_x m_y m_d m_t m_v m_n r_s r_n r_w r_k x2 0 N u_870 hc_871 _) (cwV 2 hts gL_galleries_X4_room rfl rfl rfl (by decide +kernel) ⟨Nat.le_of_ble_eq_true rfl, Nat.le_of_ble_eq_true rfl⟩) (wPreV hP hD hK [0, 1, 2, 3, 4, 5, 6, 7, 8, 9, 10, 11, 12, 13, 14, 15] rfl rfl (ci := 4) (qb := 0) rfl rfl rfl) rfl rfl hl.1 rfl (lv_room (Nat.le_of_ble_eq_true rfl)) dL_galleries_154 ⟨Nat.zero_le _, Nat.zero_le _⟩) hP hD hS hA [0, 1, 2, 3, 4, 5, 6, 7, 8, 9, 10, 11, 12, 13, 14, 15] [] [0, 1, 2, 3, 4, 5, 6, 7, 8, 9, 10, 11, 12, 13, 14, 15] rfl rfl rfl (by decide) rfl rfl (fun H locs hP hD hS => ?_)
      refine lv_ixor hx hb dL_galleries_157 ?_
      obtain ⟨u_872, hc_873, h⟩ := bd_inv h
      refine wafter_i (wr := (w_C G c0 l0 l1 l2 l3 m0 m1 m2 m3 m4 m5 r0 r1 r2 r3 g0 g_e l_a l_b l_c l_n m_x m_y m_d m_t m_v m_n r_s r_n r_w r_k)) (w2 := (w_C G c0 l0 l1 l2 l3 m0 m1 m2 m3 m4 m5 r0 r1 r2 r3 g0 g_e l_a l_b l_c l_n m_x m_y m_d m_t m_v m_n r_s r_n r_w r_k)) (va_runS (As := [.int (x8 ^^^ u_870)]) (rest := []) ⟨hx, hb, hml, hown, hts⟩ (kL_size (l := l) (G := G)   (x8 ^^^ u_870) N u_872 hc_873 _) (va_cwS 1 hts gL_galleries_L_size rfl rfl rfl (by decide +kernel) ⟨Nat.le_of_ble_eq_true rfl, Nat.le_of_ble_eq_true rfl⟩) (wPreS hP hD hK [] rfl rfl) rfl rfl hl.1 rfl (lv_room (Nat.le_of_ble_eq_true rfl)) dL_galleries_158 ⟨Nat.zero_le _, Nat.zero_le _⟩) hP hD hS hA [] [0, 1, 2, 3, 4, 5, 6, 7, 8, 9, 10, 11, 12, 13, 14, 15] [0, 1, 2, 3, 4, 5, 6, 7, 8, 9, 10, 11, 12, 13, 14, 15] rfl rfl rfl (by decide) rfl rfl (fun H locs hP hD hS => ?_)
      refine lv_iload_n hx hb dL_galleries_161 rfl (lv_at hl 3 rfl) ?_
      refine lv_iload hx hb dL_galleries_162 (lv_at hl 4 rfl) ?_
      refine lv_isub hx hb dL_galleries_164 ?_
      refine lv_icmp_ne (tgt := 172) hx hb dL_galleries_165 (by decide) (fun c_874 => ?_) (fun c_874 => ?_)
      · have h := iq c_874 h
        refine lv_iconst (v := 0) hx hb dL_galleries_172 (by decide) ?_
        refine lv_istore (lv' := [(4, .int 0), (0, .ref c0), (1, .int x1), (2, .int x2), (3, .int x3), (6, .int x6), (8, .int x8)]) hx hb dL_galleries_173 hl (by decide) rfl (fun ls hl => ?_)
        refine lv_iload hx hb dL_galleries_175 (lv_at hl 6 rfl) ?_
        refine lv_istore (lv' := [(5, .int x8), (4, .int 0), (0, .ref c0), (1, .int x1), (2, .int x2), (3, .int x3), (6, .int x6), (8, .int x8)]) hx hb dL_galleries_177 hl (by decide) rfl (fun ls hl => ?_)
        refine lv_iinc (v := (x6 + 1)) (lv' := [(6, .int (x6 + 1)), (5, .int x8), (4, .int 0), (0, .ref c0), (1, .int x1), (2, .int x2), (3, .int x3), (8, .int x8)]) hx hb dL_galleries_179 hl (k := 6) rfl rfl (by decide) rfl (fun ls hl => ?_)
        refine lv_goto (tgt := 84) hx hb dL_galleries_182 (by decide) ?_
        exact hk_84 _ _ _ _ _ _ hP hD hS (lv_sub hl [3, 4, 5, 6, 2, 1, 0] rfl) h
      · have h := ip c_874 h
        refine lv_iconst (v := 1) hx hb dL_galleries_168 (by decide) ?_
        refine lv_goto (tgt := 173) hx hb dL_galleries_169 (by decide) ?_
        refine lv_istore (lv' := [(4, .int 1), (0, .ref c0), (1, .int x1), (2, .int x2), (3, .int x3), (6, .int x6), (8, .int x8)]) hx hb dL_galleries_173 hl (by decide) rfl (fun ls hl => ?_)
        refine lv_iload hx hb dL_galleries_175 (lv_at hl 6 rfl) ?_
        refine lv_istore (lv' := [(5, .int x8), (4, .int 1), (0, .ref c0), (1, .int x1), (2, .int x2), (3, .int x3), (6, .int x6), (8, .int x8)]) hx hb dL_galleries_177 hl (by decide) rfl (fun ls hl => ?_)
        refine lv_iinc (v := (x6 + 1)) (lv' := [(6, .int (x6 + 1)), (5, .int x8), (4, .int 1), (0, .ref c0), (1, .int x1), (2, .int x2), (3, .int x3), (8, .int x8)]) hx hb dL_galleries_179 hl (k := 6) rfl rfl (by decide) rfl (fun ls hl => ?_)
        refine lv_goto (tgt := 84) hx hb dL_galleries_182 (by decide) ?_
        exact hk_84 _ _ _ _ _ _ hP hD hS (lv_sub hl [3, 4, 5, 6, 2, 1, 0] rfl) h
  have w_121 : ∀ (k_84 : Int32 → Int32 → Int32 → Option (Int32 × (Nat → Int32))) (x1 : Int32) (x2 : Int32) (x3 : Int32) (x5 : Int32) (x6 : Int32) (x7 : Int32) (r_w : Nat → Int32) (s0 : Int32) (H : Heap) (locs : List Loc) (ls : Array Slot), (∀ (y4 : Int32) (y5 : Int32) (y6 : Int32) (H : Heap) (locs : List Loc) (ls : Array Slot), va_P G.1 vwCl (w_C G c0 l0 l1 l2 l3 m0 m1 m2 m3 m4 m5 r0 r1 r2 r3 g0 g_e l_a l_b l_c l_n m_x m_y m_d m_t m_v m_n r_s r_n r_w r_k) H → va_D A (w_C G c0 l0 l1 l2 l3 m0 m1 m2 m3 m4 m5 r0 r1 r2 r3 g0 g_e l_a l_b l_c l_n m_x m_y m_d m_t m_v m_n r_s r_n r_w r_k) → va_S A s.heap H locs → lv_has ls 9 [(0, .ref c0), (1, .int x1), (2, .int x2), (3, .int x3), (4, .int y4), (5, .int y5), (6, .int y6)] → k_84 y4 y5 y6 = some v → W p l e ({ frames := 8, cells := 0, slots := 0, locals := 144 } : Room) s m args below meth c H locs 0 0 (wQi G A below args s (w_C G c0 l0 l1 l2 l3 m0 m1 m2 m3 m4 m5 r0 r1 r2 r3 g0 g_e l_a l_b l_c l_n m_x m_y m_d m_t m_v m_n r_s r_n v.2 r_k) 0 0 v.1) (F0 m 84 ls [])) → va_P G.1 vwCl (w_C G c0 l0 l1 l2 l3 m0 m1 m2 m3 m4 m5 r0 r1 r2 r3 g0 g_e l_a l_b l_c l_n m_x m_y m_d m_t m_v m_n r_s r_n r_w r_k) H → va_D A (w_C G c0 l0 l1 l2 l3 m0 m1 m2 m3 m4 m5 r0 r1 r2 r3 g0 g_e l_a l_b l_c l_n m_x m_y m_d m_t m_v m_n r_s r_n r_w r_k) → va_S A s.heap H locs → lv_has ls 9 [(0, .ref c0), (1, .int x1), (2, .int x2), (3, .int x3), (5, .int x5), (6, .int x6), (7, .int x7)] → fL_galleries_b121 N l_a l_b l_n m_t m_v m_n r_s r_n r_k x2 x3 x7 x5 x6 s0 k_84 = some v → W p l e ({ frames := 8, cells := 0, slots := 0, locals := 144 } : Room) s m args below meth c H locs 0 0 (wQi G A below args s (w_C G c0 l0 l1 l2 l3 m0 m1 m2 m3 m4 m5 r0 r1 r2 r3 g0 g_e l_a l_b l_c l_n m_x m_y m_d m_t m_v m_n r_s r_n v.2 r_k) 0 0 v.1) (F0 m 121 ls [.int s0]) := by
    intro k_84 x1 x2 x3 x5 x6 x7 r_w s0 H locs ls hk_84 hP hD hS hl h
    rw [fL_galleries_b121.eq_1] at h
    refine lv_istore (lv' := [(8, .int s0), (0, .ref c0), (1, .int x1), (2, .int x2), (3, .int x3), (5, .int x5), (6, .int x6), (7, .int x7)]) hx hb dL_galleries_121 hl (by decide) rfl (fun ls hl => ?_)
    refine lv_iload hx hb dL_galleries_123 (lv_at hl 7 rfl) ?_
    refine lv_if_lt (tgt := 172) hx hb dL_galleries_125 (by decide) (fun c_875 => ?_) (fun c_875 => ?_)
    · have h := ip c_875 h
      refine lv_iconst (v := 0) hx hb dL_galleries_172 (by decide) ?_
      refine lv_istore (lv' := [(4, .int 0), (8, .int s0), (0, .ref c0), (1, .int x1), (2, .int x2), (3, .int x3), (5, .int x5), (6, .int x6), (7, .int x7)]) hx hb dL_galleries_173 hl (by decide) rfl (fun ls hl => ?_)
      refine lv_iload hx hb dL_galleries_175 (lv_at hl 1 rfl) ?_
      refine lv_istore (lv' := [(5, .int s0), (4, .int 0), (8, .int s0), (0, .ref c0), (1, .int x1), (2, .int x2), (3, .int x3), (6, .int x6), (7, .int x7)]) hx hb dL_galleries_177 hl (by decide) rfl (fun ls hl => ?_)
      refine lv_iinc (v := (x6 + 1)) (lv' := [(6, .int (x6 + 1)), (5, .int s0), (4, .int 0), (8, .int s0), (0, .ref c0), (1, .int x1), (2, .int x2), (3, .int x3), (7, .int x7)]) hx hb dL_galleries_179 hl (k := 7) rfl rfl (by decide) rfl (fun ls hl => ?_)
      refine lv_goto (tgt := 84) hx hb dL_galleries_182 (by decide) ?_
      exact hk_84 _ _ _ _ _ _ hP hD hS (lv_sub hl [4, 5, 6, 7, 2, 1, 0] rfl) h
    · have h := iq c_875 h
      refine lv_iload hx hb dL_galleries_128 (lv_at hl 5 rfl) ?_
      refine lv_iload hx hb dL_galleries_130 (lv_at hl 0 rfl) ?_
      refine lv_ixor hx hb dL_galleries_132 ?_
      obtain ⟨u_876, hc_877, h⟩ := bd_inv h
      refine wafter_i (wr := (w_C G c0 l0 l1 l2 l3 m0 m1 m2 m3 m4 m5 r0 r1 r2 r3 g0 g_e l_a l_b l_c l_n m_x m_y m_d m_t m_v m_n r_s r_n r_w r_k)) (w2 := (w_C G c0 l0 l1 l2 l3 m0 m1 m2 m3 m4 m5 r0 r1 r2 r3 g0 g_e l_a l_b l_c l_n m_x m_y m_d m_t m_v m_n r_s r_n r_w r_k)) (va_runS (As := [.int (x5 ^^^ s0)]) (rest := []) ⟨hx, hb, hml, hown, hts⟩ (kL_size (l := l) (G := G)   (x5 ^^^ s0) N u_876 hc_877 _) (va_cwS 1 hts gL_galleries_L_size rfl rfl rfl (by decide +kernel) ⟨Nat.le_of_ble_eq_true rfl, Nat.le_of_ble_eq_true rfl⟩) (wPreS hP hD hK [] rfl rfl) rfl rfl hl.1 rfl (lv_room (Nat.le_of_ble_eq_true rfl)) dL_galleries_133 ⟨Nat.zero_le _, Nat.zero_le _⟩) hP hD hS hA [] [0, 1, 2, 3, 4, 5, 6, 7, 8, 9, 10, 11, 12, 13, 14, 15] [0, 1, 2, 3, 4, 5, 6, 7, 8, 9, 10, 11, 12, 13, 14, 15] rfl rfl rfl (by decide) rfl rfl (fun H locs hP hD hS => ?_)
      refine lv_iload hx hb dL_galleries_136 (lv_at hl 6 rfl) ?_
      refine lv_if_ne (tgt := 145) hx hb dL_galleries_138 (by decide) (fun c_878 => ?_) (fun c_878 => ?_)
      · have h := iq c_878 h
        refine lv_iconst (v := 1) hx hb dL_galleries_145 (by decide) ?_
        refine w_146 _ _ _ _ _ _ _ _ _ _ _ _ (fun x4_879 x5_880 x6_881 H locs ls hP hD hS hl h => ?_) hP hD hS (lv_sub hl [1, 2, 3, 4, 6, 0] rfl) h
        exact hk_84 _ _ _ _ _ _ hP hD hS (lv_sub hl [0, 1, 2, 3, 4, 5, 6] rfl) h
      · have h := ip c_878 h
        refine lv_iconst (v := 0) hx hb dL_galleries_141 (by decide) ?_
        refine lv_goto (tgt := 146) hx hb dL_galleries_142 (by decide) ?_
        refine w_146 _ _ _ _ _ _ _ _ _ _ _ _ (fun x4_882 x5_883 x6_884 H locs ls hP hD hS hl h => ?_) hP hD hS (lv_sub hl [1, 2, 3, 4, 6, 0] rfl) h
        exact hk_84 _ _ _ _ _ _ hP hD hS (lv_sub hl [0, 1, 2, 3, 4, 5, 6] rfl) h
  have w_84 : ∀ (x1 : Int32) (x2 : Int32) (x3 : Int32) (r_w : Nat → Int32) (_z : Unit), ∀ (n : Nat) (x4 : Int32) (x5 : Int32) (x6 : Int32)  (H : Heap) (locs : List Loc) (ls : Array Slot), va_P G.1 vwCl (w_C G c0 l0 l1 l2 l3 m0 m1 m2 m3 m4 m5 r0 r1 r2 r3 g0 g_e l_a l_b l_c l_n m_x m_y m_d m_t m_v m_n r_s r_n r_w r_k) H → va_D A (w_C G c0 l0 l1 l2 l3 m0 m1 m2 m3 m4 m5 r0 r1 r2 r3 g0 g_e l_a l_b l_c l_n m_x m_y m_d m_t m_v m_n r_s r_n r_w r_k) → va_S A s.heap H locs → lv_has ls 9 [(0, .ref c0), (1, .int x1), (2, .int x2), (3, .int x3), (4, .int x4), (5, .int x5), (6, .int x6)] → fL_galleries_b84 N l_a l_b l_n m_t m_v m_n r_s r_n r_w r_k x1 x2 x3 n x4 x5 x6 = some v → W p l e ({ frames := 8, cells := 0, slots := 0, locals := 144 } : Room) s m args below meth c H locs 0 0 (wQi G A below args s (w_C G c0 l0 l1 l2 l3 m0 m1 m2 m3 m4 m5 r0 r1 r2 r3 g0 g_e l_a l_b l_c l_n m_x m_y m_d m_t m_v m_n r_s r_n v.2 r_k) 0 0 v.1) (F0 m 84 ls []) := by
    intro x1 x2 x3 r_w _z n
    induction n with
    | zero =>
      intro x4 x5 x6 H locs ls hP hD hS hl h
      rw [fL_galleries_b84.eq_1] at h
      cases h
    | succ n ih =>
      intro x4 x5 x6 H locs ls hP hD hS hl h
      rw [fL_galleries_b84.eq_2] at h
      refine lv_iload hx hb dL_galleries_84 (lv_at hl 6 rfl) ?_
      refine lv_iload_n hx hb dL_galleries_86 rfl (lv_at hl 3 rfl) ?_
      refine lv_icmp_gt (tgt := 185) hx hb dL_galleries_87 (by decide) (fun c_885 => ?_) (fun c_885 => ?_)
      · have h := ip c_885 h
        refine lv_iload hx hb dL_galleries_185 (lv_at hl 4 rfl) ?_
        obtain ⟨hz, h⟩ := zo_inv h
        obtain rfl := Option.some.inj h
        exact wrz hx hb hr hlocks hP hD hS (Nat.le_of_ble_eq_true rfl) (Nat.le_of_ble_eq_true rfl) hz rfl dL_galleries_187
      · have h := iq c_885 h
        refine lv_iload hx hb dL_galleries_90 (lv_at hl 4 rfl) ?_
        refine lv_if_eq (tgt := 185) hx hb dL_galleries_92 (by decide) (fun c_886 => ?_) (fun c_886 => ?_)
        · have h := ip c_886 h
          refine lv_iload hx hb dL_galleries_185 (lv_at hl 4 rfl) ?_
          obtain ⟨hz, h⟩ := zo_inv h
          obtain rfl := Option.some.inj h
          exact wrz hx hb hr hlocks hP hD hS (Nat.le_of_ble_eq_true rfl) (Nat.le_of_ble_eq_true rfl) hz rfl dL_galleries_187
        · have h := iq c_886 h
          refine lv_aload_n hx hb dL_galleries_95 rfl (lv_at hl 0 rfl) ?_
          refine lv_iload_n hx hb dL_galleries_96 rfl (lv_at hl 1 rfl) ?_
          refine lv_iload_n hx hb dL_galleries_97 rfl (lv_at hl 2 rfl) ?_
          refine lv_iload hx hb dL_galleries_98 (lv_at hl 6 rfl) ?_
          obtain ⟨u_887, hc_888, h⟩ := bdn_n h
          refine wafter_i (wr := []) (w2 := (w_C G c0 l0 l1 l2 l3 m0 m1 m2 m3 m4 m5 r0 r1 r2 r3 g0 g_e l_a l_b l_c l_n m_x m_y m_d m_t m_v m_n r_s r_n r_w r_k)) (va_runV (As := [.int x1, .int x2, .int x6]) (rest := []) ⟨hx, hb, hml, hown, hts⟩ (nX4_gallery (l := l) (G := G) c0 l0 l1 l2 l3 m0 m1 m2 m3 m4 m5 r0 r1 r2 r3 g0 g_e l_a l_b l_c l_n m_x m_y m_d m_t m_v m_n r_s r_n r_w r_k x1 x2 x6 N u_887 hc_888 _) (cwV 3 hts gL_galleries_X4_gallery rfl rfl rfl (by decide +kernel) ⟨Nat.le_of_ble_eq_true rfl, Nat.le_of_ble_eq_true rfl⟩) (wPreV hP hD hK [0, 1, 2, 3, 4, 5, 6, 7, 8, 9, 10, 11, 12, 13, 14, 15] rfl rfl (ci := 4) (qb := 0) rfl rfl rfl) rfl rfl hl.1 rfl (lv_room (Nat.le_of_ble_eq_true rfl)) dL_galleries_100 ⟨Nat.zero_le _, Nat.zero_le _⟩) hP hD hS hA [0, 1, 2, 3, 4, 5, 6, 7, 8, 9, 10, 11, 12, 13, 14, 15] [] [0, 1, 2, 3, 4, 5, 6, 7, 8, 9, 10, 11, 12, 13, 14, 15] rfl rfl rfl (by decide) rfl rfl (fun H locs hP hD hS => ?_)
          refine lv_istore (lv' := [(7, .int u_887), (0, .ref c0), (1, .int x1), (2, .int x2), (3, .int x3), (4, .int x4), (5, .int x5), (6, .int x6)]) hx hb dL_galleries_103 hl (by decide) rfl (fun ls hl => ?_)
          refine lv_iload hx hb dL_galleries_105 (lv_at hl 0 rfl) ?_
          refine lv_if_ge (tgt := 114) hx hb dL_galleries_107 (by decide) (fun c_889 => ?_) (fun c_889 => ?_)
          · have h := ip c_889 h
            refine lv_aload_n hx hb dL_galleries_114 rfl (lv_at hl 1 rfl) ?_
            refine lv_iload hx hb dL_galleries_115 (lv_at hl 0 rfl) ?_
            refine lv_iconst (v := 0) hx hb dL_galleries_117 (by decide) ?_
            obtain ⟨u_890, hc_891, h⟩ := bdn_n h
            refine wafter_i (wr := []) (w2 := (w_C G c0 l0 l1 l2 l3 m0 m1 m2 m3 m4 m5 r0 r1 r2 r3 g0 g_e l_a l_b l_c l_n m_x m_y m_d m_t m_v m_n r_s r_n r_w r_k)) (va_runV (As := [.int u_887, .int 0]) (rest := []) ⟨hx, hb, hml, hown, hts⟩ (nX4_room (l := l) (G := G) c0 l0 l1 l2 l3 m0 m1 m2 m3 m4 m5 r0 r1 r2 r3 g0 g_e l_a l_b l_c l_n m_x m_y m_d m_t m_v m_n r_s r_n r_w r_k u_887 0 N u_890 hc_891 _) (cwV 2 hts gL_galleries_X4_room rfl rfl rfl (by decide +kernel) ⟨Nat.le_of_ble_eq_true rfl, Nat.le_of_ble_eq_true rfl⟩) (wPreV hP hD hK [0, 1, 2, 3, 4, 5, 6, 7, 8, 9, 10, 11, 12, 13, 14, 15] rfl rfl (ci := 4) (qb := 0) rfl rfl rfl) rfl rfl hl.1 rfl (lv_room (Nat.le_of_ble_eq_true rfl)) dL_galleries_118 ⟨Nat.zero_le _, Nat.zero_le _⟩) hP hD hS hA [0, 1, 2, 3, 4, 5, 6, 7, 8, 9, 10, 11, 12, 13, 14, 15] [] [0, 1, 2, 3, 4, 5, 6, 7, 8, 9, 10, 11, 12, 13, 14, 15] rfl rfl rfl (by decide) rfl rfl (fun H locs hP hD hS => ?_)
            refine w_121 _ _ _ _ _ _ _ _ _ _ _ _ (fun x4_892 x5_893 x6_894 H locs ls hP hD hS hl h => ?_) hP hD hS (lv_sub hl [1, 2, 3, 4, 6, 7, 0] rfl) h
            exact ih _ _ _ _ _ _ hP hD hS (lv_sub hl [0, 1, 2, 3, 4, 5, 6] rfl) h
          · have h := iq c_889 h
            refine lv_iconst (v := (-1)) hx hb dL_galleries_110 (by decide) ?_
            refine lv_goto (tgt := 121) hx hb dL_galleries_111 (by decide) ?_
            refine w_121 _ _ _ _ _ _ _ _ _ _ _ _ (fun x4_895 x5_896 x6_897 H locs ls hP hD hS hl h => ?_) hP hD hS (lv_sub hl [1, 2, 3, 4, 6, 7, 0] rfl) h
            exact ih _ _ _ _ _ _ hP hD hS (lv_sub hl [0, 1, 2, 3, 4, 5, 6] rfl) h
  have w_71 : ∀ (x1 : Int32) (x2 : Int32) (x3 : Int32) (r_w : Nat → Int32) (s0 : Int32) (H : Heap) (locs : List Loc) (ls : Array Slot), va_P G.1 vwCl (w_C G c0 l0 l1 l2 l3 m0 m1 m2 m3 m4 m5 r0 r1 r2 r3 g0 g_e l_a l_b l_c l_n m_x m_y m_d m_t m_v m_n r_s r_n r_w r_k) H → va_D A (w_C G c0 l0 l1 l2 l3 m0 m1 m2 m3 m4 m5 r0 r1 r2 r3 g0 g_e l_a l_b l_c l_n m_x m_y m_d m_t m_v m_n r_s r_n r_w r_k) → va_S A s.heap H locs → lv_has ls 9 [(0, .ref c0), (1, .int x1), (2, .int x2), (3, .int x3)] → fL_galleries_b71 N l_a l_b l_n m_t m_v m_n r_s r_n r_w r_k x1 x2 x3 s0 = some v → W p l e ({ frames := 8, cells := 0, slots := 0, locals := 144 } : Room) s m args below meth c H locs 0 0 (wQi G A below args s (w_C G c0 l0 l1 l2 l3 m0 m1 m2 m3 m4 m5 r0 r1 r2 r3 g0 g_e l_a l_b l_c l_n m_x m_y m_d m_t m_v m_n r_s r_n v.2 r_k) 0 0 v.1) (F0 m 71 ls [.int s0]) := by
    intro x1 x2 x3 r_w s0 H locs ls hP hD hS hl h
    rw [fL_galleries_b71.eq_1] at h
    refine lv_istore (lv' := [(4, .int s0), (0, .ref c0), (1, .int x1), (2, .int x2), (3, .int x3)]) hx hb dL_galleries_71 hl (by decide) rfl (fun ls hl => ?_)
    refine lv_aload_n hx hb dL_galleries_73 rfl (lv_at hl 1 rfl) ?_
    refine lv_iload_n hx hb dL_galleries_74 rfl (lv_at hl 2 rfl) ?_
    refine lv_iconst (v := 0) hx hb dL_galleries_75 (by decide) ?_
    obtain ⟨u_898, hc_899, h⟩ := bdn_n h
    refine wafter_i (wr := []) (w2 := (w_C G c0 l0 l1 l2 l3 m0 m1 m2 m3 m4 m5 r0 r1 r2 r3 g0 g_e l_a l_b l_c l_n m_x m_y m_d m_t m_v m_n r_s r_n r_w r_k)) (va_runV (As := [.int x1, .int 0]) (rest := []) ⟨hx, hb, hml, hown, hts⟩ (nX4_room (l := l) (G := G) c0 l0 l1 l2 l3 m0 m1 m2 m3 m4 m5 r0 r1 r2 r3 g0 g_e l_a l_b l_c l_n m_x m_y m_d m_t m_v m_n r_s r_n r_w r_k x1 0 N u_898 hc_899 _) (cwV 2 hts gL_galleries_X4_room rfl rfl rfl (by decide +kernel) ⟨Nat.le_of_ble_eq_true rfl, Nat.le_of_ble_eq_true rfl⟩) (wPreV hP hD hK [0, 1, 2, 3, 4, 5, 6, 7, 8, 9, 10, 11, 12, 13, 14, 15] rfl rfl (ci := 4) (qb := 0) rfl rfl rfl) rfl rfl hl.1 rfl (lv_room (Nat.le_of_ble_eq_true rfl)) dL_galleries_76 ⟨Nat.zero_le _, Nat.zero_le _⟩) hP hD hS hA [0, 1, 2, 3, 4, 5, 6, 7, 8, 9, 10, 11, 12, 13, 14, 15] [] [0, 1, 2, 3, 4, 5, 6, 7, 8, 9, 10, 11, 12, 13, 14, 15] rfl rfl rfl (by decide) rfl rfl (fun H locs hP hD hS => ?_)
    refine lv_istore (lv' := [(5, .int u_898), (4, .int s0), (0, .ref c0), (1, .int x1), (2, .int x2), (3, .int x3)]) hx hb dL_galleries_79 hl (by decide) rfl (fun ls hl => ?_)
    refine lv_iconst (v := 0) hx hb dL_galleries_81 (by decide) ?_
    refine lv_istore (lv' := [(6, .int 0), (5, .int u_898), (4, .int s0), (0, .ref c0), (1, .int x1), (2, .int x2), (3, .int x3)]) hx hb dL_galleries_82 hl (by decide) rfl (fun ls hl => ?_)
    exact w_84  _ _ _ _ ()  N _ _ _  _ _ _ hP hD hS (lv_sub hl [3, 4, 5, 6, 2, 1, 0] rfl) h
  rw [fL_galleries.eq_1] at h
  refine lv_aload_n hx hb dL_galleries_0 rfl (lv_at hl 0 rfl) ?_
  refine lv_iload_n hx hb dL_galleries_1 rfl (lv_at hl 1 rfl) ?_
  refine lv_iconst (v := 0) hx hb dL_galleries_2 (by decide) ?_
  obtain ⟨u_900, hc_901, h⟩ := bdn_n h
  refine wafter_i (wr := []) (w2 := (w_C G c0 l0 l1 l2 l3 m0 m1 m2 m3 m4 m5 r0 r1 r2 r3 g0 g_e l_a l_b l_c l_n m_x m_y m_d m_t m_v m_n r_s r_n r_w r_k)) (va_runV (As := [.int x1, .int 0]) (rest := []) ⟨hx, hb, hml, hown, hts⟩ (nX4_room (l := l) (G := G) c0 l0 l1 l2 l3 m0 m1 m2 m3 m4 m5 r0 r1 r2 r3 g0 g_e l_a l_b l_c l_n m_x m_y m_d m_t m_v m_n r_s r_n r_w r_k x1 0 N u_900 hc_901 _) (cwV 2 hts gL_galleries_X4_room rfl rfl rfl (by decide +kernel) ⟨Nat.le_of_ble_eq_true rfl, Nat.le_of_ble_eq_true rfl⟩) (wPreV hP hD hK [0, 1, 2, 3, 4, 5, 6, 7, 8, 9, 10, 11, 12, 13, 14, 15] rfl rfl (ci := 4) (qb := 0) rfl rfl rfl) rfl rfl hl.1 rfl (lv_room (Nat.le_of_ble_eq_true rfl)) dL_galleries_3 ⟨Nat.zero_le _, Nat.zero_le _⟩) hP hD hS hA [0, 1, 2, 3, 4, 5, 6, 7, 8, 9, 10, 11, 12, 13, 14, 15] [] [0, 1, 2, 3, 4, 5, 6, 7, 8, 9, 10, 11, 12, 13, 14, 15] rfl rfl rfl (by decide) rfl rfl (fun H locs hP hD hS => ?_)
  refine lv_aload_n hx hb dL_galleries_6 rfl (lv_at hl 0 rfl) ?_
  refine lv_iload_n hx hb dL_galleries_7 rfl (lv_at hl 2 rfl) ?_
  refine lv_iconst (v := 0) hx hb dL_galleries_8 (by decide) ?_
  obtain ⟨u_902, hc_903, h⟩ := bdn_n h
  refine wafter_i (wr := []) (w2 := (w_C G c0 l0 l1 l2 l3 m0 m1 m2 m3 m4 m5 r0 r1 r2 r3 g0 g_e l_a l_b l_c l_n m_x m_y m_d m_t m_v m_n r_s r_n r_w r_k)) (va_runV (As := [.int x2, .int 0]) (rest := [.int u_900]) ⟨hx, hb, hml, hown, hts⟩ (nX4_room (l := l) (G := G) c0 l0 l1 l2 l3 m0 m1 m2 m3 m4 m5 r0 r1 r2 r3 g0 g_e l_a l_b l_c l_n m_x m_y m_d m_t m_v m_n r_s r_n r_w r_k x2 0 N u_902 hc_903 _) (cwV 2 hts gL_galleries_X4_room rfl rfl rfl (by decide +kernel) ⟨Nat.le_of_ble_eq_true rfl, Nat.le_of_ble_eq_true rfl⟩) (wPreV hP hD hK [0, 1, 2, 3, 4, 5, 6, 7, 8, 9, 10, 11, 12, 13, 14, 15] rfl rfl (ci := 4) (qb := 0) rfl rfl rfl) rfl rfl hl.1 rfl (lv_room (Nat.le_of_ble_eq_true rfl)) dL_galleries_9 ⟨Nat.zero_le _, Nat.zero_le _⟩) hP hD hS hA [0, 1, 2, 3, 4, 5, 6, 7, 8, 9, 10, 11, 12, 13, 14, 15] [] [0, 1, 2, 3, 4, 5, 6, 7, 8, 9, 10, 11, 12, 13, 14, 15] rfl rfl rfl (by decide) rfl rfl (fun H locs hP hD hS => ?_)
  refine lv_ixor hx hb dL_galleries_12 ?_
  obtain ⟨u_904, hc_905, h⟩ := bd_inv h
  refine wafter_i (wr := (w_C G c0 l0 l1 l2 l3 m0 m1 m2 m3 m4 m5 r0 r1 r2 r3 g0 g_e l_a l_b l_c l_n m_x m_y m_d m_t m_v m_n r_s r_n r_w r_k)) (w2 := (w_C G c0 l0 l1 l2 l3 m0 m1 m2 m3 m4 m5 r0 r1 r2 r3 g0 g_e l_a l_b l_c l_n m_x m_y m_d m_t m_v m_n r_s r_n r_w r_k)) (va_runS (As := [.int (u_900 ^^^ u_902)]) (rest := []) ⟨hx, hb, hml, hown, hts⟩ (kL_size (l := l) (G := G)   (u_900 ^^^ u_902) N u_904 hc_905 _) (va_cwS 1 hts gL_galleries_L_size rfl rfl rfl (by decide +kernel) ⟨Nat.le_of_ble_eq_true rfl, Nat.le_of_ble_eq_true rfl⟩) (wPreS hP hD hK [] rfl rfl) rfl rfl hl.1 rfl (lv_room (Nat.le_of_ble_eq_true rfl)) dL_galleries_13 ⟨Nat.zero_le _, Nat.zero_le _⟩) hP hD hS hA [] [0, 1, 2, 3, 4, 5, 6, 7, 8, 9, 10, 11, 12, 13, 14, 15] [0, 1, 2, 3, 4, 5, 6, 7, 8, 9, 10, 11, 12, 13, 14, 15] rfl rfl rfl (by decide) rfl rfl (fun H locs hP hD hS => ?_)
  refine lv_istore_n (lv' := [(3, .int u_904), (0, .ref c0), (1, .int x1), (2, .int x2)]) hx hb dL_galleries_16 rfl hl (by decide) rfl (fun ls hl => ?_)
  refine lv_aload_n hx hb dL_galleries_17 rfl (lv_at hl 1 rfl) ?_
  refine lv_iload_n hx hb dL_galleries_18 rfl (lv_at hl 2 rfl) ?_
  refine lv_iload_n hx hb dL_galleries_19 rfl (lv_at hl 3 rfl) ?_
  obtain ⟨u_906, hc_907, h⟩ := bdn_n h
  refine wafter_i (wr := []) (w2 := (w_C G c0 l0 l1 l2 l3 m0 m1 m2 m3 m4 m5 r0 r1 r2 r3 g0 g_e l_a l_b l_c l_n m_x m_y m_d m_t m_v m_n r_s r_n u_906.2 r_k)) (va_runV (As := [.int x1, .int x2]) (rest := []) ⟨hx, hb, hml, hown, hts⟩ (nX4_galleries (l := l) (G := G) c0 l0 l1 l2 l3 m0 m1 m2 m3 m4 m5 r0 r1 r2 r3 g0 g_e l_a l_b l_c l_n m_x m_y m_d m_t m_v m_n r_s r_n r_w r_k x1 x2 N u_906 hc_907 _) (cwV 2 hts gL_galleries_X4_galleries rfl rfl rfl (by decide +kernel) ⟨Nat.le_of_ble_eq_true rfl, Nat.le_of_ble_eq_true rfl⟩) (wPreV hP hD hK [0, 1, 2, 3, 4, 5, 6, 7, 8, 9, 10, 11, 12, 13, 14, 15] rfl rfl (ci := 4) (qb := 0) rfl rfl rfl) rfl rfl hl.1 rfl (lv_room (Nat.le_of_ble_eq_true rfl)) dL_galleries_20 ⟨Nat.zero_le _, Nat.zero_le _⟩) hP hD hS hA [0, 1, 2, 3, 4, 5, 6, 7, 8, 9, 10, 11, 12, 13, 14, 15] [] [0, 1, 2, 3, 4, 5, 6, 7, 8, 9, 10, 11, 12, 13, 14, 15] rfl rfl rfl (by decide) rfl rfl (fun H locs hP hD hS => ?_)
  refine lv_aload_n hx hb dL_galleries_23 rfl (lv_at hl 1 rfl) ?_
  refine lv_iload_n hx hb dL_galleries_24 rfl (lv_at hl 3 rfl) ?_
  refine lv_iload_n hx hb dL_galleries_25 rfl (lv_at hl 2 rfl) ?_
  obtain ⟨u_908, hc_909, h⟩ := bdn_n h
  refine wafter_i (wr := []) (w2 := (w_C G c0 l0 l1 l2 l3 m0 m1 m2 m3 m4 m5 r0 r1 r2 r3 g0 g_e l_a l_b l_c l_n m_x m_y m_d m_t m_v m_n r_s r_n u_908.2 r_k)) (va_runV (As := [.int x2, .int x1]) (rest := [.int u_906.1]) ⟨hx, hb, hml, hown, hts⟩ (nX4_galleries (l := l) (G := G) c0 l0 l1 l2 l3 m0 m1 m2 m3 m4 m5 r0 r1 r2 r3 g0 g_e l_a l_b l_c l_n m_x m_y m_d m_t m_v m_n r_s r_n u_906.2 r_k x2 x1 N u_908 hc_909 _) (cwV 2 hts gL_galleries_X4_galleries rfl rfl rfl (by decide +kernel) ⟨Nat.le_of_ble_eq_true rfl, Nat.le_of_ble_eq_true rfl⟩) (wPreV hP hD hK [0, 1, 2, 3, 4, 5, 6, 7, 8, 9, 10, 11, 12, 13, 14, 15] rfl rfl (ci := 4) (qb := 0) rfl rfl rfl) rfl rfl hl.1 rfl (lv_room (Nat.le_of_ble_eq_true rfl)) dL_galleries_26 ⟨Nat.zero_le _, Nat.zero_le _⟩) hP hD hS hA [0, 1, 2, 3, 4, 5, 6, 7, 8, 9, 10, 11, 12, 13, 14, 15] [] [0, 1, 2, 3, 4, 5, 6, 7, 8, 9, 10, 11, 12, 13, 14, 15] rfl rfl rfl (by decide) rfl rfl (fun H locs hP hD hS => ?_)
  refine lv_icmp_ne (tgt := 70) hx hb dL_galleries_29 (by decide) (fun c_910 => ?_) (fun c_910 => ?_)
  · have h := iq c_910 h
    refine lv_iconst (v := 0) hx hb dL_galleries_70 (by decide) ?_
    exact w_71  _ _ _ _ _ _ _ _  hP hD hS (lv_sub hl [1, 2, 3, 0] rfl) h
  · have h := ip c_910 h
    refine lv_aload_n hx hb dL_galleries_32 rfl (lv_at hl 1 rfl) ?_
    refine lv_iload_n hx hb dL_galleries_33 rfl (lv_at hl 2 rfl) ?_
    refine lv_iload_n hx hb dL_galleries_34 rfl (lv_at hl 3 rfl) ?_
    obtain ⟨u_911, hc_912, h⟩ := bdn_n h
    refine wafter_i (wr := []) (w2 := (w_C G c0 l0 l1 l2 l3 m0 m1 m2 m3 m4 m5 r0 r1 r2 r3 g0 g_e l_a l_b l_c l_n m_x m_y m_d m_t m_v m_n r_s r_n u_911.2 r_k)) (va_runV (As := [.int x1, .int x2]) (rest := []) ⟨hx, hb, hml, hown, hts⟩ (nX4_galleries (l := l) (G := G) c0 l0 l1 l2 l3 m0 m1 m2 m3 m4 m5 r0 r1 r2 r3 g0 g_e l_a l_b l_c l_n m_x m_y m_d m_t m_v m_n r_s r_n u_908.2 r_k x1 x2 N u_911 hc_912 _) (cwV 2 hts gL_galleries_X4_galleries rfl rfl rfl (by decide +kernel) ⟨Nat.le_of_ble_eq_true rfl, Nat.le_of_ble_eq_true rfl⟩) (wPreV hP hD hK [0, 1, 2, 3, 4, 5, 6, 7, 8, 9, 10, 11, 12, 13, 14, 15] rfl rfl (ci := 4) (qb := 0) rfl rfl rfl) rfl rfl hl.1 rfl (lv_room (Nat.le_of_ble_eq_true rfl)) dL_galleries_35 ⟨Nat.zero_le _, Nat.zero_le _⟩) hP hD hS hA [0, 1, 2, 3, 4, 5, 6, 7, 8, 9, 10, 11, 12, 13, 14, 15] [] [0, 1, 2, 3, 4, 5, 6, 7, 8, 9, 10, 11, 12, 13, 14, 15] rfl rfl rfl (by decide) rfl rfl (fun H locs hP hD hS => ?_)
    refine lv_iconst (v := 1) hx hb dL_galleries_38 (by decide) ?_
    refine lv_icmp_lt (tgt := 70) hx hb dL_galleries_39 (by decide) (fun c_913 => ?_) (fun c_913 => ?_)
    · have h := ip c_913 h
      refine lv_iconst (v := 0) hx hb dL_galleries_70 (by decide) ?_
      exact w_71  _ _ _ _ _ _ _ _  hP hD hS (lv_sub hl [1, 2, 3, 0] rfl) h
    · have h := iq c_913 h
      refine lv_aload_n hx hb dL_galleries_42 rfl (lv_at hl 1 rfl) ?_
      refine lv_iload_n hx hb dL_galleries_43 rfl (lv_at hl 2 rfl) ?_
      refine lv_iload_n hx hb dL_galleries_44 rfl (lv_at hl 3 rfl) ?_
      refine lv_iload_n hx hb dL_galleries_45 rfl (lv_at hl 0 rfl) ?_
      obtain ⟨u_914, hc_915, h⟩ := bdn_n h
      refine wafter_i (wr := []) (w2 := (w_C G c0 l0 l1 l2 l3 m0 m1 m2 m3 m4 m5 r0 r1 r2 r3 g0 g_e l_a l_b l_c l_n m_x m_y m_d m_t m_v m_n r_s r_n u_911.2 r_k)) (va_runV (As := [.int x1, .int x2, .int u_904]) (rest := []) ⟨hx, hb, hml, hown, hts⟩ (nX4_gallery (l := l) (G := G) c0 l0 l1 l2 l3 m0 m1 m2 m3 m4 m5 r0 r1 r2 r3 g0 g_e l_a l_b l_c l_n m_x m_y m_d m_t m_v m_n r_s r_n u_911.2 r_k x1 x2 u_904 N u_914 hc_915 _) (cwV 3 hts gL_galleries_X4_gallery rfl rfl rfl (by decide +kernel) ⟨Nat.le_of_ble_eq_true rfl, Nat.le_of_ble_eq_true rfl⟩) (wPreV hP hD hK [0, 1, 2, 3, 4, 5, 6, 7, 8, 9, 10, 11, 12, 13, 14, 15] rfl rfl (ci := 4) (qb := 0) rfl rfl rfl) rfl rfl hl.1 rfl (lv_room (Nat.le_of_ble_eq_true rfl)) dL_galleries_46 ⟨Nat.zero_le _, Nat.zero_le _⟩) hP hD hS hA [0, 1, 2, 3, 4, 5, 6, 7, 8, 9, 10, 11, 12, 13, 14, 15] [] [0, 1, 2, 3, 4, 5, 6, 7, 8, 9, 10, 11, 12, 13, 14, 15] rfl rfl rfl (by decide) rfl rfl (fun H locs hP hD hS => ?_)
      refine lv_iload_n hx hb dL_galleries_49 rfl (lv_at hl 3 rfl) ?_
      refine lv_icmp_ne (tgt := 70) hx hb dL_galleries_50 (by decide) (fun c_916 => ?_) (fun c_916 => ?_)
      · have h := iq c_916 h
        refine lv_iconst (v := 0) hx hb dL_galleries_70 (by decide) ?_
        exact w_71  _ _ _ _ _ _ _ _  hP hD hS (lv_sub hl [1, 2, 3, 0] rfl) h
      · have h := ip c_916 h
        refine lv_aload_n hx hb dL_galleries_53 rfl (lv_at hl 1 rfl) ?_
        refine lv_iload_n hx hb dL_galleries_54 rfl (lv_at hl 2 rfl) ?_
        refine lv_iload_n hx hb dL_galleries_55 rfl (lv_at hl 3 rfl) ?_
        refine lv_iload_n hx hb dL_galleries_56 rfl (lv_at hl 0 rfl) ?_
        refine lv_iconst (v := 1) hx hb dL_galleries_57 (by decide) ?_
        refine lv_iadd hx hb dL_galleries_58 ?_
        obtain ⟨u_917, hc_918, h⟩ := bdn_n h
        refine wafter_i (wr := []) (w2 := (w_C G c0 l0 l1 l2 l3 m0 m1 m2 m3 m4 m5 r0 r1 r2 r3 g0 g_e l_a l_b l_c l_n m_x m_y m_d m_t m_v m_n r_s r_n u_911.2 r_k)) (va_runV (As := [.int x1, .int x2, .int (u_904 + 1)]) (rest := []) ⟨hx, hb, hml, hown, hts⟩ (nX4_gallery (l := l) (G := G) c0 l0 l1 l2 l3 m0 m1 m2 m3 m4 m5 r0 r1 r2 r3 g0 g_e l_a l_b l_c l_n m_x m_y m_d m_t m_v m_n r_s r_n u_911.2 r_k x1 x2 (u_904 + 1) N u_917 hc_918 _) (cwV 3 hts gL_galleries_X4_gallery rfl rfl rfl (by decide +kernel) ⟨Nat.le_of_ble_eq_true rfl, Nat.le_of_ble_eq_true rfl⟩) (wPreV hP hD hK [0, 1, 2, 3, 4, 5, 6, 7, 8, 9, 10, 11, 12, 13, 14, 15] rfl rfl (ci := 4) (qb := 0) rfl rfl rfl) rfl rfl hl.1 rfl (lv_room (Nat.le_of_ble_eq_true rfl)) dL_galleries_59 ⟨Nat.zero_le _, Nat.zero_le _⟩) hP hD hS hA [0, 1, 2, 3, 4, 5, 6, 7, 8, 9, 10, 11, 12, 13, 14, 15] [] [0, 1, 2, 3, 4, 5, 6, 7, 8, 9, 10, 11, 12, 13, 14, 15] rfl rfl rfl (by decide) rfl rfl (fun H locs hP hD hS => ?_)
        refine lv_iconst (v := (-1)) hx hb dL_galleries_62 (by decide) ?_
        refine lv_icmp_ne (tgt := 70) hx hb dL_galleries_63 (by decide) (fun c_919 => ?_) (fun c_919 => ?_)
        · have h := iq c_919 h
          refine lv_iconst (v := 0) hx hb dL_galleries_70 (by decide) ?_
          exact w_71  _ _ _ _ _ _ _ _  hP hD hS (lv_sub hl [1, 2, 3, 0] rfl) h
        · have h := ip c_919 h
          refine lv_iconst (v := 1) hx hb dL_galleries_66 (by decide) ?_
          refine lv_goto (tgt := 71) hx hb dL_galleries_67 (by decide) ?_
          exact w_71  _ _ _ _ _ _ _ _  hP hD hS (lv_sub hl [1, 2, 3, 0] rfl) h
def fL_meets_b76 (N : Nat) (m_t : Nat → Int32) (m_v : Nat → Int32) (m_n : Int32) (r_s : Nat → Int32) (r_k : Int32) (x2 : Int32) (x6 : Int32) (x8 : Int32) (k_111 : Int32 → Option (Int32)) : Nat → Int32 → Int32 → Option (Int32)
  | 0, _, _ => none
  | n + 1, x9, x10 => if x8 ≤ x10 then k_111 x9 else bdn (fX4_corner N m_t m_v m_n r_s r_k x6 x10) (fun u_921 => if u_921 = x2 then fL_meets_b76 N m_t m_v m_n r_s r_k x2 x6 x8 k_111 n (x9 ||| 1) (x10 + 1) else fL_meets_b76 N m_t m_v m_n r_s r_k x2 x6 x8 k_111 n (x9 ||| 0) (x10 + 1))
def fL_meets_b293 (N : Nat) (x10 : Int32) (x18 : Int32) (x16 : Int32) (x17 : Int32) (s0 : Int32) (s1 : Int32) (k_195 : Int32 → Int32 → Int32 → Option (Int32)) : Option (Int32) := if x18 = x10 then k_195 (s0 &&& s1) (x16 ||| 1) (x17 + 1) else k_195 (s0 &&& s1) (x16 ||| 0) (x17 + 1)
def fL_meets_b195 (N : Nat) (m_x : Nat → Int32) (m_y : Nat → Int32) (m_d : Nat → Int32) (m_t : Nat → Int32) (m_v : Nat → Int32) (m_n : Int32) (r_s : Nat → Int32) (r_k : Int32) (x1 : Int32) (x3 : Int32) (x4 : Int32) (x10 : Int32) (x11 : Int64) (x13 : Int64) (x15 : Int32) (k_319 : Int32 → Int32 → Option (Int32)) : Nat → Int32 → Int32 → Int32 → Option (Int32)
  | 0, _, _, _ => none
  | n + 1, x7, x16, x17 => if x15 ≤ x17 then k_319 x7 x16 else if x10 < 0 then k_319 x7 x16 else bdn (fX4_corner N m_t m_v m_n r_s r_k x1 x17) (fun u_927 => bdn (fX4_meet N m_x m_y m_d m_t m_n u_927 0) (fun u_929 => bdn (fX4_meet N m_x m_y m_d m_t m_n u_927 1) (fun u_931 => nm (Int32.toInt64 ((x3 * u_929) + (x4 * u_931))) (fun x19_933 => bdn (fX4_meet N m_x m_y m_d m_t m_n u_927 2) (fun u_934 => if 0 < (lg_cmp (x19_933 * x13) (x11 * (Int32.toInt64 u_934))) then fL_meets_b293 N x10 u_927 x16 x17 x7 0 (fun (x7_937 : Int32) (x16_938 : Int32) (x17_939 : Int32) => fL_meets_b195 N m_x m_y m_d m_t m_v m_n r_s r_k x1 x3 x4 x10 x11 x13 x15 k_319 n x7_937 x16_938 x17_939) else if x10 ≤ u_927 then fL_meets_b293 N x10 u_927 x16 x17 x7 1 (fun (x7_941 : Int32) (x16_942 : Int32) (x17_943 : Int32) => fL_meets_b195 N m_x m_y m_d m_t m_v m_n r_s r_k x1 x3 x4 x10 x11 x13 x15 k_319 n x7_941 x16_942 x17_943) else bdn (fX4_meet N m_x m_y m_d m_t m_n u_927 2) (fun u_944 => if 0 ≤ (lg_cmp (x19_933 * x13) (x11 * (Int32.toInt64 u_944))) then fL_meets_b293 N x10 u_927 x16 x17 x7 0 (fun (x7_947 : Int32) (x16_948 : Int32) (x17_949 : Int32) => fL_meets_b195 N m_x m_y m_d m_t m_v m_n r_s r_k x1 x3 x4 x10 x11 x13 x15 k_319 n x7_947 x16_948 x17_949) else fL_meets_b293 N x10 u_927 x16 x17 x7 1 (fun (x7_950 : Int32) (x16_951 : Int32) (x17_952 : Int32) => fL_meets_b195 N m_x m_y m_d m_t m_v m_n r_s r_k x1 x3 x4 x10 x11 x13 x15 k_319 n x7_950 x16_951 x17_952)))))))
def fL_meets_b170 (N : Nat) (l_a : Nat → Int32) (l_b : Nat → Int32) (l_n : Int32) (m_x : Nat → Int32) (m_y : Nat → Int32) (m_d : Nat → Int32) (m_t : Nat → Int32) (m_v : Nat → Int32) (m_n : Int32) (r_s : Nat → Int32) (r_n : Nat → Int32) (r_k : Int32) (x1 : Int32) (x3 : Int32) (x4 : Int32) (x9 : Int32) (x10 : Int32) (x11 : Int64) (x7 : Int32) (s0 : Int64) : Option (Int32) := bdn (fX4_room N l_a l_b l_n m_t m_v m_n r_s r_n r_k x1 3) (fun u_953 => if 0 ≤ x10 then fL_meets_b195 N m_x m_y m_d m_t m_v m_n r_s r_k x1 x3 x4 x10 x11 s0 u_953 (fun (x7_956 : Int32) (x16_957 : Int32) => if x7_956 = 0 then zo 0 (some 0) else if x9 = 0 then zo 0 (some 0) else if x16_957 = 0 then zo 0 (some 0) else if 0 ≤ x10 then zo 1 (some 1) else bdn (fX4_room N l_a l_b l_n m_t m_v m_n r_s r_n r_k x1 1) (fun u_962 => if u_962 = 0 then zo 1 (some 1) else zo 0 (some 0))) N x7 0 0 else fL_meets_b195 N m_x m_y m_d m_t m_v m_n r_s r_k x1 x3 x4 x10 x11 s0 u_953 (fun (x7_965 : Int32) (x16_966 : Int32) => if x7_965 = 0 then zo 0 (some 0) else if x9 = 0 then zo 0 (some 0) else if x16_966 = 0 then zo 0 (some 0) else if 0 ≤ x10 then zo 1 (some 1) else bdn (fX4_room N l_a l_b l_n m_t m_v m_n r_s r_n r_k x1 1) (fun u_971 => if u_971 = 0 then zo 1 (some 1) else zo 0 (some 0))) N x7 1 0)
def fL_meets_b151 (N : Nat) (l_a : Nat → Int32) (l_b : Nat → Int32) (l_n : Int32) (m_x : Nat → Int32) (m_y : Nat → Int32) (m_d : Nat → Int32) (m_t : Nat → Int32) (m_v : Nat → Int32) (m_n : Int32) (r_s : Nat → Int32) (r_n : Nat → Int32) (r_k : Int32) (x1 : Int32) (x3 : Int32) (x4 : Int32) (x9 : Int32) (x10 : Int32) (x7 : Int32) (s0 : Int64) : Option (Int32) := if 0 ≤ x10 then bdn (fX4_meet N m_x m_y m_d m_t m_n x10 2) (fun u_975 => fL_meets_b170 N l_a l_b l_n m_x m_y m_d m_t m_v m_n r_s r_n r_k x1 x3 x4 x9 x10 s0 x7 (Int32.toInt64 u_975)) else fL_meets_b170 N l_a l_b l_n m_x m_y m_d m_t m_v m_n r_s r_n r_k x1 x3 x4 x9 x10 s0 x7 1
def fL_meets_b59 (N : Nat) (l_a : Nat → Int32) (l_b : Nat → Int32) (l_n : Int32) (m_x : Nat → Int32) (m_y : Nat → Int32) (m_d : Nat → Int32) (m_t : Nat → Int32) (m_v : Nat → Int32) (m_n : Int32) (r_s : Nat → Int32) (r_n : Nat → Int32) (r_k : Int32) (x1 : Int32) (x2 : Int32) (x3 : Int32) (x4 : Int32) (x6 : Int32) (s0 : Int32) : Option (Int32) := bdn (fX4_room N l_a l_b l_n m_t m_v m_n r_s r_n r_k x6 3) (fun u_977 => fL_meets_b76 N m_t m_v m_n r_s r_k x2 x6 u_977 (fun (x9_979 : Int32) => bdn (fX4_best N l_a l_b l_n m_x m_y m_d m_t m_v m_n r_s r_k x1 x3 x4) (fun u_980 => if 0 ≤ u_980 then bdn (fX4_meet N m_x m_y m_d m_t m_n u_980 0) (fun u_983 => bdn (fX4_meet N m_x m_y m_d m_t m_n u_980 1) (fun u_985 => fL_meets_b151 N l_a l_b l_n m_x m_y m_d m_t m_v m_n r_s r_n r_k x1 x3 x4 x9_979 u_980 s0 (Int32.toInt64 ((x3 * u_983) + (x4 * u_985))))) else fL_meets_b151 N l_a l_b l_n m_x m_y m_d m_t m_v m_n r_s r_n r_k x1 x3 x4 x9_979 u_980 s0 0)) N 0 0)
def fL_meets (N : Nat) (l_a : Nat → Int32) (l_b : Nat → Int32) (l_n : Int32) (m_x : Nat → Int32) (m_y : Nat → Int32) (m_d : Nat → Int32) (m_t : Nat → Int32) (m_v : Nat → Int32) (m_n : Int32) (r_s : Nat → Int32) (r_n : Nat → Int32) (r_k : Int32) (x1 : Int32) (x2 : Int32) (x3 : Int32) (x4 : Int32) : Option (Int32) := bdn (fX4_meet N m_x m_y m_d m_t m_n x2 3) (fun u_987 => bdn (fX4_project N m_t m_v m_n r_s r_n r_k x1 x2) (fun u_989 => bdn (fX4_meet N m_x m_y m_d m_t m_n x2 2) (fun u_991 => if u_991 ≤ 0 then fL_meets_b59 N l_a l_b l_n m_x m_y m_d m_t m_v m_n r_s r_n r_k x1 x2 x3 x4 u_989 0 else bd (fL_size N u_987) (fun u_994 => if u_994 ≤ 1 then fL_meets_b59 N l_a l_b l_n m_x m_y m_d m_t m_v m_n r_s r_n r_k x1 x2 x3 x4 u_989 0 else bdn (fX4_room N l_a l_b l_n m_t m_v m_n r_s r_n r_k u_989 0) (fun u_997 => bdn (fX4_room N l_a l_b l_n m_t m_v m_n r_s r_n r_k x1 0) (fun u_999 => if ((u_997 ^^^ u_999) &&& u_987) = 0 then fL_meets_b59 N l_a l_b l_n m_x m_y m_d m_t m_v m_n r_s r_n r_k x1 x2 x3 x4 u_989 1 else fL_meets_b59 N l_a l_b l_n m_x m_y m_d m_t m_v m_n r_s r_n r_k x1 x2 x3 x4 u_989 0))))))
set_option maxHeartbeats 4000000 in
set_option maxRecDepth 100000 in
theorem kL_meets {l : Launch} {G : wG} (c0 l0 l1 l2 l3 m0 m1 m2 m3 m4 m5 r0 r1 r2 r3 g0 : Nat) (g_e : Int64) (l_a : Nat → Int32) (l_b : Nat → Int32) (l_c : Nat → Int32) (l_n : Int32) (m_x : Nat → Int32) (m_y : Nat → Int32) (m_d : Nat → Int32) (m_t : Nat → Int32) (m_v : Nat → Int32) (m_n : Int32) (r_s : Nat → Int32) (r_n : Nat → Int32) (r_w : Nat → Int32) (r_k : Int32) (x1 : Int32) (x2 : Int32) (x3 : Int32) (x4 : Int32) (N : Nat) (v : Int32) (h : fL_meets N l_a l_b l_n m_x m_y m_d m_t m_v m_n r_s r_n r_k x1 x2 x3 x4 = some v) : wCi l G yL_meets wsL_meets ({ frames := 8, cells := 0, slots := 0, locals := 144 } : Room) [.ref c0, .int x1, .int x2, .int x3, .int x4] (w_C G c0 l0 l1 l2 l3 m0 m1 m2 m3 m4 m5 r0 r1 r2 r3 g0 g_e l_a l_b l_c l_n m_x m_y m_d m_t m_v m_n r_s r_n r_w r_k) (w_C G c0 l0 l1 l2 l3 m0 m1 m2 m3 m4 m5 r0 r1 r2 r3 g0 g_e l_a l_b l_c l_n m_x m_y m_d m_t m_v m_n r_s r_n r_w r_k) 0 0 v := by
  refine wCi.mk (cc := cL_meets) (maxL := 21) (ty := .boolean) (by decide) rfl (Nat.le_of_ble_eq_true rfl) ?_
  intro p e s m below meth c A ls hx hb hml hr hlocks hts hown hK hA hP hD hl
  have hx : p.tables.exec = Jvm.exec := hx
  have hown : s.vm.findClass RL = some m.cls := hown
  have hS : va_S A s.heap s.heap [] := va_S.rf
  have hP : va_P G.1 vwCl (w_C G c0 l0 l1 l2 l3 m0 m1 m2 m3 m4 m5 r0 r1 r2 r3 g0 g_e l_a l_b l_c l_n m_x m_y m_d m_t m_v m_n r_s r_n r_w r_k) s.heap := hP
  have hD : va_D A (w_C G c0 l0 l1 l2 l3 m0 m1 m2 m3 m4 m5 r0 r1 r2 r3 g0 g_e l_a l_b l_c l_n m_x m_y m_d m_t m_v m_n r_s r_n r_w r_k) := hD
  have hl : lv_has ls 21 [(0, .ref c0), (1, .int x1), (2, .int x2), (3, .int x3), (4, .int x4)] := hl
  obtain ⟨args, hargs⟩ : ∃ z : Array Value, z = ([.ref c0, .int x1, .int x2, .int x3, .int x4] : List Value).toArray := ⟨_, rfl⟩
  rw [← hargs]
  rw [← hargs] at hts
  have w_76 : ∀ (k_111 : Int32 → Option (Int32)) (x1 : Int32) (x2 : Int32) (x3 : Int32) (x4 : Int32) (x6 : Int32) (x7 : Int32) (x8 : Int32)  (_z : Unit), (∀ (y9 : Int32) (H : Heap) (locs : List Loc) (ls : Array Slot), va_P G.1 vwCl (w_C G c0 l0 l1 l2 l3 m0 m1 m2 m3 m4 m5 r0 r1 r2 r3 g0 g_e l_a l_b l_c l_n m_x m_y m_d m_t m_v m_n r_s r_n r_w r_k) H → va_D A (w_C G c0 l0 l1 l2 l3 m0 m1 m2 m3 m4 m5 r0 r1 r2 r3 g0 g_e l_a l_b l_c l_n m_x m_y m_d m_t m_v m_n r_s r_n r_w r_k) → va_S A s.heap H locs → lv_has ls 21 [(0, .ref c0), (1, .int x1), (3, .int x3), (4, .int x4), (7, .int x7), (9, .int y9)] → k_111 y9 = some v → W p l e ({ frames := 8, cells := 0, slots := 0, locals := 144 } : Room) s m args below meth c H locs 0 0 (wQi G A below args s (w_C G c0 l0 l1 l2 l3 m0 m1 m2 m3 m4 m5 r0 r1 r2 r3 g0 g_e l_a l_b l_c l_n m_x m_y m_d m_t m_v m_n r_s r_n r_w r_k) 0 0 v) (F0 m 111 ls [])) → ∀ (n : Nat) (x9 : Int32) (x10 : Int32)  (H : Heap) (locs : List Loc) (ls : Array Slot), va_P G.1 vwCl (w_C G c0 l0 l1 l2 l3 m0 m1 m2 m3 m4 m5 r0 r1 r2 r3 g0 g_e l_a l_b l_c l_n m_x m_y m_d m_t m_v m_n r_s r_n r_w r_k) H → va_D A (w_C G c0 l0 l1 l2 l3 m0 m1 m2 m3 m4 m5 r0 r1 r2 r3 g0 g_e l_a l_b l_c l_n m_x m_y m_d m_t m_v m_n r_s r_n r_w r_k) → va_S A s.heap H locs → lv_has ls 21 [(0, .ref c0), (1, .int x1), (2, .int x2), (3, .int x3), (4, .int x4), (6, .int x6), (7, .int x7), (8, .int x8), (9, .int x9), (10, .int x10)] → fL_meets_b76 N m_t m_v m_n r_s r_k x2 x6 x8 k_111 n x9 x10 = some v → W p l e ({ frames := 8, cells := 0, slots := 0, locals := 144 } : Room) s m args below meth c H locs 0 0 (wQi G A below args s (w_C G c0 l0 l1 l2 l3 m0 m1 m2 m3 m4 m5 r0 r1 r2 r3 g0 g_e l_a l_b l_c l_n m_x m_y m_d m_t m_v m_n r_s r_n r_w r_k) 0 0 v) (F0 m 76 ls []) := by
    intro k_111 x1 x2 x3 x4 x6 x7 x8 _z hk_111 n
    induction n with
    | zero =>
      intro x9 x10 H locs ls hP hD hS hl h
      rw [fL_meets_b76.eq_1] at h
      cases h
    | succ n ih =>
      intro x9 x10 H locs ls hP hD hS hl h
      rw [fL_meets_b76.eq_2] at h
      refine lv_iload hx hb dL_meets_76 (lv_at hl 9 rfl) ?_
      refine lv_iload hx hb dL_meets_78 (lv_at hl 7 rfl) ?_
      refine lv_icmp_ge (tgt := 111) hx hb dL_meets_80 (by decide) (fun c_920 => ?_) (fun c_920 => ?_)
      · have h := ip c_920 h
        exact hk_111 _ _ _ _ hP hD hS (lv_sub hl [0, 1, 3, 4, 6, 8] rfl) h
      · have h := iq c_920 h
        refine lv_iload hx hb dL_meets_83 (lv_at hl 8 rfl) ?_
        refine lv_aload_n hx hb dL_meets_85 rfl (lv_at hl 0 rfl) ?_
        refine lv_iload hx hb dL_meets_86 (lv_at hl 5 rfl) ?_
        refine lv_iload hx hb dL_meets_88 (lv_at hl 9 rfl) ?_
        obtain ⟨u_921, hc_922, h⟩ := bdn_n h
        refine wafter_i (wr := []) (w2 := (w_C G c0 l0 l1 l2 l3 m0 m1 m2 m3 m4 m5 r0 r1 r2 r3 g0 g_e l_a l_b l_c l_n m_x m_y m_d m_t m_v m_n r_s r_n r_w r_k)) (va_runV (As := [.int x6, .int x10]) (rest := [.int x9]) ⟨hx, hb, hml, hown, hts⟩ (nX4_corner (l := l) (G := G) c0 l0 l1 l2 l3 m0 m1 m2 m3 m4 m5 r0 r1 r2 r3 g0 g_e l_a l_b l_c l_n m_x m_y m_d m_t m_v m_n r_s r_n r_w r_k x6 x10 N u_921 hc_922 _) (cwV 2 hts gL_meets_X4_corner rfl rfl rfl (by decide +kernel) ⟨Nat.le_of_ble_eq_true rfl, Nat.le_of_ble_eq_true rfl⟩) (wPreV hP hD hK [0, 1, 2, 3, 4, 5, 6, 7, 8, 9, 10, 11, 12, 13, 14, 15] rfl rfl (ci := 4) (qb := 0) rfl rfl rfl) rfl rfl hl.1 rfl (lv_room (Nat.le_of_ble_eq_true rfl)) dL_meets_90 ⟨Nat.zero_le _, Nat.zero_le _⟩) hP hD hS hA [0, 1, 2, 3, 4, 5, 6, 7, 8, 9, 10, 11, 12, 13, 14, 15] [] [0, 1, 2, 3, 4, 5, 6, 7, 8, 9, 10, 11, 12, 13, 14, 15] rfl rfl rfl (by decide) rfl rfl (fun H locs hP hD hS => ?_)
        refine lv_iload_n hx hb dL_meets_93 rfl (lv_at hl 2 rfl) ?_
        refine lv_icmp_ne (tgt := 101) hx hb dL_meets_94 (by decide) (fun c_923 => ?_) (fun c_923 => ?_)
        · have h := iq c_923 h
          refine lv_iconst (v := 0) hx hb dL_meets_101 (by decide) ?_
          refine lv_ior hx hb dL_meets_102 ?_
          refine lv_istore (lv' := [(9, .int (x9 ||| 0)), (0, .ref c0), (1, .int x1), (2, .int x2), (3, .int x3), (4, .int x4), (6, .int x6), (7, .int x7), (8, .int x8), (10, .int x10)]) hx hb dL_meets_103 hl (by decide) rfl (fun ls hl => ?_)
          refine lv_iinc (v := (x10 + 1)) (lv' := [(10, .int (x10 + 1)), (9, .int (x9 ||| 0)), (0, .ref c0), (1, .int x1), (2, .int x2), (3, .int x3), (4, .int x4), (6, .int x6), (7, .int x7), (8, .int x8)]) hx hb dL_meets_105 hl (k := 9) rfl rfl (by decide) rfl (fun ls hl => ?_)
          refine lv_goto (tgt := 76) hx hb dL_meets_108 (by decide) ?_
          exact ih _ _ _ _ _ hP hD hS (lv_sub hl [2, 3, 4, 5, 6, 7, 8, 9, 1, 0] rfl) h
        · have h := ip c_923 h
          refine lv_iconst (v := 1) hx hb dL_meets_97 (by decide) ?_
          refine lv_goto (tgt := 102) hx hb dL_meets_98 (by decide) ?_
          refine lv_ior hx hb dL_meets_102 ?_
          refine lv_istore (lv' := [(9, .int (x9 ||| 1)), (0, .ref c0), (1, .int x1), (2, .int x2), (3, .int x3), (4, .int x4), (6, .int x6), (7, .int x7), (8, .int x8), (10, .int x10)]) hx hb dL_meets_103 hl (by decide) rfl (fun ls hl => ?_)
          refine lv_iinc (v := (x10 + 1)) (lv' := [(10, .int (x10 + 1)), (9, .int (x9 ||| 1)), (0, .ref c0), (1, .int x1), (2, .int x2), (3, .int x3), (4, .int x4), (6, .int x6), (7, .int x7), (8, .int x8)]) hx hb dL_meets_105 hl (k := 9) rfl rfl (by decide) rfl (fun ls hl => ?_)
          refine lv_goto (tgt := 76) hx hb dL_meets_108 (by decide) ?_
          exact ih _ _ _ _ _ hP hD hS (lv_sub hl [2, 3, 4, 5, 6, 7, 8, 9, 1, 0] rfl) h
  have w_293 : ∀ (k_195 : Int32 → Int32 → Int32 → Option (Int32)) (x1 : Int32) (x3 : Int32) (x4 : Int32) (x9 : Int32) (x10 : Int32) (x11 : Int64) (x13 : Int64) (x15 : Int32) (x16 : Int32) (x17 : Int32) (x18 : Int32)  (s0 : Int32) (s1 : Int32) (H : Heap) (locs : List Loc) (ls : Array Slot), (∀ (y7 : Int32) (y16 : Int32) (y17 : Int32) (H : Heap) (locs : List Loc) (ls : Array Slot), va_P G.1 vwCl (w_C G c0 l0 l1 l2 l3 m0 m1 m2 m3 m4 m5 r0 r1 r2 r3 g0 g_e l_a l_b l_c l_n m_x m_y m_d m_t m_v m_n r_s r_n r_w r_k) H → va_D A (w_C G c0 l0 l1 l2 l3 m0 m1 m2 m3 m4 m5 r0 r1 r2 r3 g0 g_e l_a l_b l_c l_n m_x m_y m_d m_t m_v m_n r_s r_n r_w r_k) → va_S A s.heap H locs → lv_has ls 21 [(0, .ref c0), (1, .int x1), (3, .int x3), (4, .int x4), (7, .int y7), (9, .int x9), (10, .int x10), (11, .long x11), (13, .long x13), (15, .int x15), (16, .int y16), (17, .int y17)] → k_195 y7 y16 y17 = some v → W p l e ({ frames := 8, cells := 0, slots := 0, locals := 144 } : Room) s m args below meth c H locs 0 0 (wQi G A below args s (w_C G c0 l0 l1 l2 l3 m0 m1 m2 m3 m4 m5 r0 r1 r2 r3 g0 g_e l_a l_b l_c l_n m_x m_y m_d m_t m_v m_n r_s r_n r_w r_k) 0 0 v) (F0 m 195 ls [])) → va_P G.1 vwCl (w_C G c0 l0 l1 l2 l3 m0 m1 m2 m3 m4 m5 r0 r1 r2 r3 g0 g_e l_a l_b l_c l_n m_x m_y m_d m_t m_v m_n r_s r_n r_w r_k) H → va_D A (w_C G c0 l0 l1 l2 l3 m0 m1 m2 m3 m4 m5 r0 r1 r2 r3 g0 g_e l_a l_b l_c l_n m_x m_y m_d m_t m_v m_n r_s r_n r_w r_k) → va_S A s.heap H locs → lv_has ls 21 [(0, .ref c0), (1, .int x1), (3, .int x3), (4, .int x4), (9, .int x9), (10, .int x10), (11, .long x11), (13, .long x13), (15, .int x15), (16, .int x16), (17, .int x17), (18, .int x18)] → fL_meets_b293 N x10 x18 x16 x17 s0 s1 k_195 = some v → W p l e ({ frames := 8, cells := 0, slots := 0, locals := 144 } : Room) s m args below meth c H locs 0 0 (wQi G A below args s (w_C G c0 l0 l1 l2 l3 m0 m1 m2 m3 m4 m5 r0 r1 r2 r3 g0 g_e l_a l_b l_c l_n m_x m_y m_d m_t m_v m_n r_s r_n r_w r_k) 0 0 v) (F0 m 293 ls [.int s1, .int s0]) := by
    intro k_195 x1 x3 x4 x9 x10 x11 x13 x15 x16 x17 x18 s0 s1 H locs ls hk_195 hP hD hS hl h
    rw [fL_meets_b293.eq_1] at h
    refine lv_iand hx hb dL_meets_293 ?_
    refine lv_istore (lv' := [(7, .int (s0 &&& s1)), (0, .ref c0), (1, .int x1), (3, .int x3), (4, .int x4), (9, .int x9), (10, .int x10), (11, .long x11), (13, .long x13), (15, .int x15), (16, .int x16), (17, .int x17), (18, .int x18)]) hx hb dL_meets_294 hl (by decide) rfl (fun ls hl => ?_)
    refine lv_iload hx hb dL_meets_296 (lv_at hl 10 rfl) ?_
    refine lv_iload hx hb dL_meets_298 (lv_at hl 12 rfl) ?_
    refine lv_iload hx hb dL_meets_300 (lv_at hl 6 rfl) ?_
    refine lv_icmp_ne (tgt := 309) hx hb dL_meets_302 (by decide) (fun c_924 => ?_) (fun c_924 => ?_)
    · have h := iq c_924 h
      refine lv_iconst (v := 0) hx hb dL_meets_309 (by decide) ?_
      refine lv_ior hx hb dL_meets_310 ?_
      refine lv_istore (lv' := [(16, .int (x16 ||| 0)), (7, .int (s0 &&& s1)), (0, .ref c0), (1, .int x1), (3, .int x3), (4, .int x4), (9, .int x9), (10, .int x10), (11, .long x11), (13, .long x13), (15, .int x15), (17, .int x17), (18, .int x18)]) hx hb dL_meets_311 hl (by decide) rfl (fun ls hl => ?_)
      refine lv_iinc (v := (x17 + 1)) (lv' := [(17, .int (x17 + 1)), (16, .int (x16 ||| 0)), (7, .int (s0 &&& s1)), (0, .ref c0), (1, .int x1), (3, .int x3), (4, .int x4), (9, .int x9), (10, .int x10), (11, .long x11), (13, .long x13), (15, .int x15), (18, .int x18)]) hx hb dL_meets_313 hl (k := 11) rfl rfl (by decide) rfl (fun ls hl => ?_)
      refine lv_goto (tgt := 195) hx hb dL_meets_316 (by decide) ?_
      exact hk_195 _ _ _ _ _ _ hP hD hS (lv_sub hl [3, 4, 5, 6, 2, 7, 8, 9, 10, 11, 1, 0] rfl) h
    · have h := ip c_924 h
      refine lv_iconst (v := 1) hx hb dL_meets_305 (by decide) ?_
      refine lv_goto (tgt := 310) hx hb dL_meets_306 (by decide) ?_
      refine lv_ior hx hb dL_meets_310 ?_
      refine lv_istore (lv' := [(16, .int (x16 ||| 1)), (7, .int (s0 &&& s1)), (0, .ref c0), (1, .int x1), (3, .int x3), (4, .int x4), (9, .int x9), (10, .int x10), (11, .long x11), (13, .long x13), (15, .int x15), (17, .int x17), (18, .int x18)]) hx hb dL_meets_311 hl (by decide) rfl (fun ls hl => ?_)
      refine lv_iinc (v := (x17 + 1)) (lv' := [(17, .int (x17 + 1)), (16, .int (x16 ||| 1)), (7, .int (s0 &&& s1)), (0, .ref c0), (1, .int x1), (3, .int x3), (4, .int x4), (9, .int x9), (10, .int x10), (11, .long x11), (13, .long x13), (15, .int x15), (18, .int x18)]) hx hb dL_meets_313 hl (k := 11) rfl rfl (by decide) rfl (fun ls hl => ?_)
      refine lv_goto (tgt := 195) hx hb dL_meets_316 (by decide) ?_
      exact hk_195 _ _ _ _ _ _ hP hD hS (lv_sub hl [3, 4, 5, 6, 2, 7, 8, 9, 10, 11, 1, 0] rfl) h
  have w_195 : ∀ (k_319 : Int32 → Int32 → Option (Int32)) (x1 : Int32) (x3 : Int32) (x4 : Int32) (x9 : Int32) (x10 : Int32) (x11 : Int64) (x13 : Int64) (x15 : Int32)  (_z : Unit), (∀ (y7 : Int32) (y16 : Int32) (H : Heap) (locs : List Loc) (ls : Array Slot), va_P G.1 vwCl (w_C G c0 l0 l1 l2 l3 m0 m1 m2 m3 m4 m5 r0 r1 r2 r3 g0 g_e l_a l_b l_c l_n m_x m_y m_d m_t m_v m_n r_s r_n r_w r_k) H → va_D A (w_C G c0 l0 l1 l2 l3 m0 m1 m2 m3 m4 m5 r0 r1 r2 r3 g0 g_e l_a l_b l_c l_n m_x m_y m_d m_t m_v m_n r_s r_n r_w r_k) → va_S A s.heap H locs → lv_has ls 21 [(0, .ref c0), (1, .int x1), (7, .int y7), (9, .int x9), (10, .int x10), (16, .int y16)] → k_319 y7 y16 = some v → W p l e ({ frames := 8, cells := 0, slots := 0, locals := 144 } : Room) s m args below meth c H locs 0 0 (wQi G A below args s (w_C G c0 l0 l1 l2 l3 m0 m1 m2 m3 m4 m5 r0 r1 r2 r3 g0 g_e l_a l_b l_c l_n m_x m_y m_d m_t m_v m_n r_s r_n r_w r_k) 0 0 v) (F0 m 319 ls [])) → ∀ (n : Nat) (x7 : Int32) (x16 : Int32) (x17 : Int32)  (H : Heap) (locs : List Loc) (ls : Array Slot), va_P G.1 vwCl (w_C G c0 l0 l1 l2 l3 m0 m1 m2 m3 m4 m5 r0 r1 r2 r3 g0 g_e l_a l_b l_c l_n m_x m_y m_d m_t m_v m_n r_s r_n r_w r_k) H → va_D A (w_C G c0 l0 l1 l2 l3 m0 m1 m2 m3 m4 m5 r0 r1 r2 r3 g0 g_e l_a l_b l_c l_n m_x m_y m_d m_t m_v m_n r_s r_n r_w r_k) → va_S A s.heap H locs → lv_has ls 21 [(0, .ref c0), (1, .int x1), (3, .int x3), (4, .int x4), (7, .int x7), (9, .int x9), (10, .int x10), (11, .long x11), (13, .long x13), (15, .int x15), (16, .int x16), (17, .int x17)] → fL_meets_b195 N m_x m_y m_d m_t m_v m_n r_s r_k x1 x3 x4 x10 x11 x13 x15 k_319 n x7 x16 x17 = some v → W p l e ({ frames := 8, cells := 0, slots := 0, locals := 144 } : Room) s m args below meth c H locs 0 0 (wQi G A below args s (w_C G c0 l0 l1 l2 l3 m0 m1 m2 m3 m4 m5 r0 r1 r2 r3 g0 g_e l_a l_b l_c l_n m_x m_y m_d m_t m_v m_n r_s r_n r_w r_k) 0 0 v) (F0 m 195 ls []) := by
    intro k_319 x1 x3 x4 x9 x10 x11 x13 x15 _z hk_319 n
    induction n with
    | zero =>
      intro x7 x16 x17 H locs ls hP hD hS hl h
      rw [fL_meets_b195.eq_1] at h
      cases h
    | succ n ih =>
      intro x7 x16 x17 H locs ls hP hD hS hl h
      rw [fL_meets_b195.eq_2] at h
      refine lv_iload hx hb dL_meets_195 (lv_at hl 11 rfl) ?_
      refine lv_iload hx hb dL_meets_197 (lv_at hl 9 rfl) ?_
      refine lv_icmp_ge (tgt := 319) hx hb dL_meets_199 (by decide) (fun c_925 => ?_) (fun c_925 => ?_)
      · have h := ip c_925 h
        exact hk_319 _ _ _ _ _ hP hD hS (lv_sub hl [0, 1, 4, 5, 6, 10] rfl) h
      · have h := iq c_925 h
        refine lv_iload hx hb dL_meets_202 (lv_at hl 6 rfl) ?_
        refine lv_if_lt (tgt := 319) hx hb dL_meets_204 (by decide) (fun c_926 => ?_) (fun c_926 => ?_)
        · have h := ip c_926 h
          exact hk_319 _ _ _ _ _ hP hD hS (lv_sub hl [0, 1, 4, 5, 6, 10] rfl) h
        · have h := iq c_926 h
          refine lv_aload_n hx hb dL_meets_207 rfl (lv_at hl 0 rfl) ?_
          refine lv_iload_n hx hb dL_meets_208 rfl (lv_at hl 1 rfl) ?_
          refine lv_iload hx hb dL_meets_209 (lv_at hl 11 rfl) ?_
          obtain ⟨u_927, hc_928, h⟩ := bdn_n h
          refine wafter_i (wr := []) (w2 := (w_C G c0 l0 l1 l2 l3 m0 m1 m2 m3 m4 m5 r0 r1 r2 r3 g0 g_e l_a l_b l_c l_n m_x m_y m_d m_t m_v m_n r_s r_n r_w r_k)) (va_runV (As := [.int x1, .int x17]) (rest := []) ⟨hx, hb, hml, hown, hts⟩ (nX4_corner (l := l) (G := G) c0 l0 l1 l2 l3 m0 m1 m2 m3 m4 m5 r0 r1 r2 r3 g0 g_e l_a l_b l_c l_n m_x m_y m_d m_t m_v m_n r_s r_n r_w r_k x1 x17 N u_927 hc_928 _) (cwV 2 hts gL_meets_X4_corner rfl rfl rfl (by decide +kernel) ⟨Nat.le_of_ble_eq_true rfl, Nat.le_of_ble_eq_true rfl⟩) (wPreV hP hD hK [0, 1, 2, 3, 4, 5, 6, 7, 8, 9, 10, 11, 12, 13, 14, 15] rfl rfl (ci := 4) (qb := 0) rfl rfl rfl) rfl rfl hl.1 rfl (lv_room (Nat.le_of_ble_eq_true rfl)) dL_meets_211 ⟨Nat.zero_le _, Nat.zero_le _⟩) hP hD hS hA [0, 1, 2, 3, 4, 5, 6, 7, 8, 9, 10, 11, 12, 13, 14, 15] [] [0, 1, 2, 3, 4, 5, 6, 7, 8, 9, 10, 11, 12, 13, 14, 15] rfl rfl rfl (by decide) rfl rfl (fun H locs hP hD hS => ?_)
          refine lv_istore (lv' := [(18, .int u_927), (0, .ref c0), (1, .int x1), (3, .int x3), (4, .int x4), (7, .int x7), (9, .int x9), (10, .int x10), (11, .long x11), (13, .long x13), (15, .int x15), (16, .int x16), (17, .int x17)]) hx hb dL_meets_214 hl (by decide) rfl (fun ls hl => ?_)
          refine lv_iload_n hx hb dL_meets_216 rfl (lv_at hl 3 rfl) ?_
          refine lv_aload_n hx hb dL_meets_217 rfl (lv_at hl 1 rfl) ?_
          refine lv_iload hx hb dL_meets_218 (lv_at hl 0 rfl) ?_
          refine lv_iconst (v := 0) hx hb dL_meets_220 (by decide) ?_
          obtain ⟨u_929, hc_930, h⟩ := bdn_n h
          refine wafter_i (wr := []) (w2 := (w_C G c0 l0 l1 l2 l3 m0 m1 m2 m3 m4 m5 r0 r1 r2 r3 g0 g_e l_a l_b l_c l_n m_x m_y m_d m_t m_v m_n r_s r_n r_w r_k)) (va_runV (As := [.int u_927, .int 0]) (rest := [.int x3]) ⟨hx, hb, hml, hown, hts⟩ (nX4_meet (l := l) (G := G) c0 l0 l1 l2 l3 m0 m1 m2 m3 m4 m5 r0 r1 r2 r3 g0 g_e l_a l_b l_c l_n m_x m_y m_d m_t m_v m_n r_s r_n r_w r_k u_927 0 N u_929 hc_930 _) (cwV 2 hts gL_meets_X4_meet rfl rfl rfl (by decide +kernel) ⟨Nat.le_of_ble_eq_true rfl, Nat.le_of_ble_eq_true rfl⟩) (wPreV hP hD hK [0, 1, 2, 3, 4, 5, 6, 7, 8, 9, 10, 11, 12, 13, 14, 15] rfl rfl (ci := 4) (qb := 0) rfl rfl rfl) rfl rfl hl.1 rfl (lv_room (Nat.le_of_ble_eq_true rfl)) dL_meets_221 ⟨Nat.zero_le _, Nat.zero_le _⟩) hP hD hS hA [0, 1, 2, 3, 4, 5, 6, 7, 8, 9, 10, 11, 12, 13, 14, 15] [] [0, 1, 2, 3, 4, 5, 6, 7, 8, 9, 10, 11, 12, 13, 14, 15] rfl rfl rfl (by decide) rfl rfl (fun H locs hP hD hS => ?_)
          refine lv_imul hx hb dL_meets_224 ?_
          refine lv_iload hx hb dL_meets_225 (lv_at hl 4 rfl) ?_
          refine lv_aload_n hx hb dL_meets_227 rfl (lv_at hl 1 rfl) ?_
          refine lv_iload hx hb dL_meets_228 (lv_at hl 0 rfl) ?_
          refine lv_iconst (v := 1) hx hb dL_meets_230 (by decide) ?_
          obtain ⟨u_931, hc_932, h⟩ := bdn_n h
          refine wafter_i (wr := []) (w2 := (w_C G c0 l0 l1 l2 l3 m0 m1 m2 m3 m4 m5 r0 r1 r2 r3 g0 g_e l_a l_b l_c l_n m_x m_y m_d m_t m_v m_n r_s r_n r_w r_k)) (va_runV (As := [.int u_927, .int 1]) (rest := [.int x4, .int (x3 * u_929)]) ⟨hx, hb, hml, hown, hts⟩ (nX4_meet (l := l) (G := G) c0 l0 l1 l2 l3 m0 m1 m2 m3 m4 m5 r0 r1 r2 r3 g0 g_e l_a l_b l_c l_n m_x m_y m_d m_t m_v m_n r_s r_n r_w r_k u_927 1 N u_931 hc_932 _) (cwV 2 hts gL_meets_X4_meet rfl rfl rfl (by decide +kernel) ⟨Nat.le_of_ble_eq_true rfl, Nat.le_of_ble_eq_true rfl⟩) (wPreV hP hD hK [0, 1, 2, 3, 4, 5, 6, 7, 8, 9, 10, 11, 12, 13, 14, 15] rfl rfl (ci := 4) (qb := 0) rfl rfl rfl) rfl rfl hl.1 rfl (lv_room (Nat.le_of_ble_eq_true rfl)) dL_meets_231 ⟨Nat.zero_le _, Nat.zero_le _⟩) hP hD hS hA [0, 1, 2, 3, 4, 5, 6, 7, 8, 9, 10, 11, 12, 13, 14, 15] [] [0, 1, 2, 3, 4, 5, 6, 7, 8, 9, 10, 11, 12, 13, 14, 15] rfl rfl rfl (by decide) rfl rfl (fun H locs hP hD hS => ?_)
          refine lv_imul hx hb dL_meets_234 ?_
          refine lv_iadd hx hb dL_meets_235 ?_
          refine lv_i2l hx hb dL_meets_236 rfl ?_
          refine wnml h (fun x19_933 h => ?_)
          refine lv_lstore (lv' := [(19, .long x19_933), (18, .int u_927), (0, .ref c0), (1, .int x1), (3, .int x3), (4, .int x4), (7, .int x7), (9, .int x9), (10, .int x10), (11, .long x11), (13, .long x13), (15, .int x15), (16, .int x16), (17, .int x17)]) hx hb dL_meets_237 hl (by decide) rfl (fun ls hl => ?_)
          refine lv_iload hx hb dL_meets_239 (lv_at hl 6 rfl) ?_
          refine lv_lload hx hb dL_meets_241 (lv_at hl 0 rfl) ?_
          refine lv_lload hx hb dL_meets_243 (lv_at hl 10 rfl) ?_
          refine lv_lmul hx hb dL_meets_245 ?_
          refine lv_lload hx hb dL_meets_246 (lv_at hl 9 rfl) ?_
          refine lv_aload_n hx hb dL_meets_248 rfl (lv_at hl 2 rfl) ?_
          refine lv_iload hx hb dL_meets_249 (lv_at hl 1 rfl) ?_
          refine lv_iconst (v := 2) hx hb dL_meets_251 (by decide) ?_
          obtain ⟨u_934, hc_935, h⟩ := bdn_n h
          refine wafter_i (wr := []) (w2 := (w_C G c0 l0 l1 l2 l3 m0 m1 m2 m3 m4 m5 r0 r1 r2 r3 g0 g_e l_a l_b l_c l_n m_x m_y m_d m_t m_v m_n r_s r_n r_w r_k)) (va_runV (As := [.int u_927, .int 2]) (rest := [.long x11, .long (x19_933 * x13), .int x7]) ⟨hx, hb, hml, hown, hts⟩ (nX4_meet (l := l) (G := G) c0 l0 l1 l2 l3 m0 m1 m2 m3 m4 m5 r0 r1 r2 r3 g0 g_e l_a l_b l_c l_n m_x m_y m_d m_t m_v m_n r_s r_n r_w r_k u_927 2 N u_934 hc_935 _) (cwV 2 hts gL_meets_X4_meet rfl rfl rfl (by decide +kernel) ⟨Nat.le_of_ble_eq_true rfl, Nat.le_of_ble_eq_true rfl⟩) (wPreV hP hD hK [0, 1, 2, 3, 4, 5, 6, 7, 8, 9, 10, 11, 12, 13, 14, 15] rfl rfl (ci := 4) (qb := 0) rfl rfl rfl) rfl rfl hl.1 rfl (lv_room (Nat.le_of_ble_eq_true rfl)) dL_meets_252 ⟨Nat.zero_le _, Nat.zero_le _⟩) hP hD hS hA [0, 1, 2, 3, 4, 5, 6, 7, 8, 9, 10, 11, 12, 13, 14, 15] [] [0, 1, 2, 3, 4, 5, 6, 7, 8, 9, 10, 11, 12, 13, 14, 15] rfl rfl rfl (by decide) rfl rfl (fun H locs hP hD hS => ?_)
          refine lv_i2l hx hb dL_meets_255 rfl ?_
          refine lv_lmul hx hb dL_meets_256 ?_
          refine W.lcmp hx hb dL_meets_257 ?_
          refine lv_if_gt (tgt := 292) hx hb dL_meets_258 (by decide) (fun c_936 => ?_) (fun c_936 => ?_)
          · have h := ip c_936 h
            refine lv_iconst (v := 0) hx hb dL_meets_292 (by decide) ?_
            refine w_293 _ _ _ _ _ _ _ _ _ _ _ _  _ _ _ _ _ (fun x7_937 x16_938 x17_939 H locs ls hP hD hS hl h => ?_) hP hD hS (lv_sub hl [2, 3, 4, 5, 7, 8, 9, 10, 11, 12, 13, 1] rfl) h
            exact ih _ _ _ _ _ _ hP hD hS (lv_sub hl [0, 1, 2, 3, 4, 5, 6, 7, 8, 9, 10, 11] rfl) h
          · have h := iq c_936 h
            refine lv_iload hx hb dL_meets_261 (lv_at hl 1 rfl) ?_
            refine lv_iload hx hb dL_meets_263 (lv_at hl 8 rfl) ?_
            refine lv_icmp_ge (tgt := 288) hx hb dL_meets_265 (by decide) (fun c_940 => ?_) (fun c_940 => ?_)
            · have h := ip c_940 h
              refine lv_iconst (v := 1) hx hb dL_meets_288 (by decide) ?_
              refine lv_goto (tgt := 293) hx hb dL_meets_289 (by decide) ?_
              refine w_293 _ _ _ _ _ _ _ _ _ _ _ _  _ _ _ _ _ (fun x7_941 x16_942 x17_943 H locs ls hP hD hS hl h => ?_) hP hD hS (lv_sub hl [2, 3, 4, 5, 7, 8, 9, 10, 11, 12, 13, 1] rfl) h
              exact ih _ _ _ _ _ _ hP hD hS (lv_sub hl [0, 1, 2, 3, 4, 5, 6, 7, 8, 9, 10, 11] rfl) h
            · have h := iq c_940 h
              refine lv_lload hx hb dL_meets_268 (lv_at hl 0 rfl) ?_
              refine lv_lload hx hb dL_meets_270 (lv_at hl 10 rfl) ?_
              refine lv_lmul hx hb dL_meets_272 ?_
              refine lv_lload hx hb dL_meets_273 (lv_at hl 9 rfl) ?_
              refine lv_aload_n hx hb dL_meets_275 rfl (lv_at hl 2 rfl) ?_
              refine lv_iload hx hb dL_meets_276 (lv_at hl 1 rfl) ?_
              refine lv_iconst (v := 2) hx hb dL_meets_278 (by decide) ?_
              obtain ⟨u_944, hc_945, h⟩ := bdn_n h
              refine wafter_i (wr := []) (w2 := (w_C G c0 l0 l1 l2 l3 m0 m1 m2 m3 m4 m5 r0 r1 r2 r3 g0 g_e l_a l_b l_c l_n m_x m_y m_d m_t m_v m_n r_s r_n r_w r_k)) (va_runV (As := [.int u_927, .int 2]) (rest := [.long x11, .long (x19_933 * x13), .int x7]) ⟨hx, hb, hml, hown, hts⟩ (nX4_meet (l := l) (G := G) c0 l0 l1 l2 l3 m0 m1 m2 m3 m4 m5 r0 r1 r2 r3 g0 g_e l_a l_b l_c l_n m_x m_y m_d m_t m_v m_n r_s r_n r_w r_k u_927 2 N u_944 hc_945 _) (cwV 2 hts gL_meets_X4_meet rfl rfl rfl (by decide +kernel) ⟨Nat.le_of_ble_eq_true rfl, Nat.le_of_ble_eq_true rfl⟩) (wPreV hP hD hK [0, 1, 2, 3, 4, 5, 6, 7, 8, 9, 10, 11, 12, 13, 14, 15] rfl rfl (ci := 4) (qb := 0) rfl rfl rfl) rfl rfl hl.1 rfl (lv_room (Nat.le_of_ble_eq_true rfl)) dL_meets_279 ⟨Nat.zero_le _, Nat.zero_le _⟩) hP hD hS hA [0, 1, 2, 3, 4, 5, 6, 7, 8, 9, 10, 11, 12, 13, 14, 15] [] [0, 1, 2, 3, 4, 5, 6, 7, 8, 9, 10, 11, 12, 13, 14, 15] rfl rfl rfl (by decide) rfl rfl (fun H locs hP hD hS => ?_)
              refine lv_i2l hx hb dL_meets_282 rfl ?_
              refine lv_lmul hx hb dL_meets_283 ?_
              refine W.lcmp hx hb dL_meets_284 ?_
              refine lv_if_ge (tgt := 292) hx hb dL_meets_285 (by decide) (fun c_946 => ?_) (fun c_946 => ?_)
              · have h := ip c_946 h
                refine lv_iconst (v := 0) hx hb dL_meets_292 (by decide) ?_
                refine w_293 _ _ _ _ _ _ _ _ _ _ _ _  _ _ _ _ _ (fun x7_947 x16_948 x17_949 H locs ls hP hD hS hl h => ?_) hP hD hS (lv_sub hl [2, 3, 4, 5, 7, 8, 9, 10, 11, 12, 13, 1] rfl) h
                exact ih _ _ _ _ _ _ hP hD hS (lv_sub hl [0, 1, 2, 3, 4, 5, 6, 7, 8, 9, 10, 11] rfl) h
              · have h := iq c_946 h
                refine lv_iconst (v := 1) hx hb dL_meets_288 (by decide) ?_
                refine lv_goto (tgt := 293) hx hb dL_meets_289 (by decide) ?_
                refine w_293 _ _ _ _ _ _ _ _ _ _ _ _  _ _ _ _ _ (fun x7_950 x16_951 x17_952 H locs ls hP hD hS hl h => ?_) hP hD hS (lv_sub hl [2, 3, 4, 5, 7, 8, 9, 10, 11, 12, 13, 1] rfl) h
                exact ih _ _ _ _ _ _ hP hD hS (lv_sub hl [0, 1, 2, 3, 4, 5, 6, 7, 8, 9, 10, 11] rfl) h
  have w_170 : ∀ (x1 : Int32) (x3 : Int32) (x4 : Int32) (x7 : Int32) (x9 : Int32) (x10 : Int32) (x11 : Int64)  (s0 : Int64) (H : Heap) (locs : List Loc) (ls : Array Slot), va_P G.1 vwCl (w_C G c0 l0 l1 l2 l3 m0 m1 m2 m3 m4 m5 r0 r1 r2 r3 g0 g_e l_a l_b l_c l_n m_x m_y m_d m_t m_v m_n r_s r_n r_w r_k) H → va_D A (w_C G c0 l0 l1 l2 l3 m0 m1 m2 m3 m4 m5 r0 r1 r2 r3 g0 g_e l_a l_b l_c l_n m_x m_y m_d m_t m_v m_n r_s r_n r_w r_k) → va_S A s.heap H locs → lv_has ls 21 [(0, .ref c0), (1, .int x1), (3, .int x3), (4, .int x4), (7, .int x7), (9, .int x9), (10, .int x10), (11, .long x11)] → fL_meets_b170 N l_a l_b l_n m_x m_y m_d m_t m_v m_n r_s r_n r_k x1 x3 x4 x9 x10 x11 x7 s0 = some v → W p l e ({ frames := 8, cells := 0, slots := 0, locals := 144 } : Room) s m args below meth c H locs 0 0 (wQi G A below args s (w_C G c0 l0 l1 l2 l3 m0 m1 m2 m3 m4 m5 r0 r1 r2 r3 g0 g_e l_a l_b l_c l_n m_x m_y m_d m_t m_v m_n r_s r_n r_w r_k) 0 0 v) (F0 m 170 ls [.long s0]) := by
    intro x1 x3 x4 x7 x9 x10 x11 s0 H locs ls hP hD hS hl h
    rw [fL_meets_b170.eq_1] at h
    refine lv_lstore (lv' := [(13, .long s0), (0, .ref c0), (1, .int x1), (3, .int x3), (4, .int x4), (7, .int x7), (9, .int x9), (10, .int x10), (11, .long x11)]) hx hb dL_meets_170 hl (by decide) rfl (fun ls hl => ?_)
    refine lv_aload_n hx hb dL_meets_172 rfl (lv_at hl 1 rfl) ?_
    refine lv_iload_n hx hb dL_meets_173 rfl (lv_at hl 2 rfl) ?_
    refine lv_iconst (v := 3) hx hb dL_meets_174 (by decide) ?_
    obtain ⟨u_953, hc_954, h⟩ := bdn_n h
    refine wafter_i (wr := []) (w2 := (w_C G c0 l0 l1 l2 l3 m0 m1 m2 m3 m4 m5 r0 r1 r2 r3 g0 g_e l_a l_b l_c l_n m_x m_y m_d m_t m_v m_n r_s r_n r_w r_k)) (va_runV (As := [.int x1, .int 3]) (rest := []) ⟨hx, hb, hml, hown, hts⟩ (nX4_room (l := l) (G := G) c0 l0 l1 l2 l3 m0 m1 m2 m3 m4 m5 r0 r1 r2 r3 g0 g_e l_a l_b l_c l_n m_x m_y m_d m_t m_v m_n r_s r_n r_w r_k x1 3 N u_953 hc_954 _) (cwV 2 hts gL_meets_X4_room rfl rfl rfl (by decide +kernel) ⟨Nat.le_of_ble_eq_true rfl, Nat.le_of_ble_eq_true rfl⟩) (wPreV hP hD hK [0, 1, 2, 3, 4, 5, 6, 7, 8, 9, 10, 11, 12, 13, 14, 15] rfl rfl (ci := 4) (qb := 0) rfl rfl rfl) rfl rfl hl.1 rfl (lv_room (Nat.le_of_ble_eq_true rfl)) dL_meets_175 ⟨Nat.zero_le _, Nat.zero_le _⟩) hP hD hS hA [0, 1, 2, 3, 4, 5, 6, 7, 8, 9, 10, 11, 12, 13, 14, 15] [] [0, 1, 2, 3, 4, 5, 6, 7, 8, 9, 10, 11, 12, 13, 14, 15] rfl rfl rfl (by decide) rfl rfl (fun H locs hP hD hS => ?_)
    refine lv_istore (lv' := [(15, .int u_953), (13, .long s0), (0, .ref c0), (1, .int x1), (3, .int x3), (4, .int x4), (7, .int x7), (9, .int x9), (10, .int x10), (11, .long x11)]) hx hb dL_meets_178 hl (by decide) rfl (fun ls hl => ?_)
    refine lv_iload hx hb dL_meets_180 (lv_at hl 8 rfl) ?_
    refine lv_if_ge (tgt := 189) hx hb dL_meets_182 (by decide) (fun c_955 => ?_) (fun c_955 => ?_)
    · have h := ip c_955 h
      refine lv_iconst (v := 0) hx hb dL_meets_189 (by decide) ?_
      refine lv_istore (lv' := [(16, .int 0), (15, .int u_953), (13, .long s0), (0, .ref c0), (1, .int x1), (3, .int x3), (4, .int x4), (7, .int x7), (9, .int x9), (10, .int x10), (11, .long x11)]) hx hb dL_meets_190 hl (by decide) rfl (fun ls hl => ?_)
      refine lv_iconst (v := 0) hx hb dL_meets_192 (by decide) ?_
      refine lv_istore (lv' := [(17, .int 0), (16, .int 0), (15, .int u_953), (13, .long s0), (0, .ref c0), (1, .int x1), (3, .int x3), (4, .int x4), (7, .int x7), (9, .int x9), (10, .int x10), (11, .long x11)]) hx hb dL_meets_193 hl (by decide) rfl (fun ls hl => ?_)
      refine w_195 _ _ _ _ _ _ _ _ _  () (fun x7_956 x16_957 H locs ls hP hD hS hl h => ?_) N _ _ _  _ _ _ hP hD hS (lv_sub hl [4, 5, 6, 7, 8, 9, 10, 11, 3, 2, 1, 0] rfl) h
      refine lv_iload hx hb dL_meets_319 (lv_at hl 2 rfl) ?_
      refine lv_if_eq (tgt := 352) hx hb dL_meets_321 (by decide) (fun c_958 => ?_) (fun c_958 => ?_)
      · have h := ip c_958 h
        refine lv_iconst (v := 0) hx hb dL_meets_352 (by decide) ?_
        obtain ⟨hz, h⟩ := zo_inv h
        obtain rfl := Option.some.inj h
        exact wrz hx hb hr hlocks hP hD hS (Nat.le_of_ble_eq_true rfl) (Nat.le_of_ble_eq_true rfl) hz rfl dL_meets_353
      · have h := iq c_958 h
        refine lv_iload hx hb dL_meets_324 (lv_at hl 3 rfl) ?_
        refine lv_if_eq (tgt := 352) hx hb dL_meets_326 (by decide) (fun c_959 => ?_) (fun c_959 => ?_)
        · have h := ip c_959 h
          refine lv_iconst (v := 0) hx hb dL_meets_352 (by decide) ?_
          obtain ⟨hz, h⟩ := zo_inv h
          obtain rfl := Option.some.inj h
          exact wrz hx hb hr hlocks hP hD hS (Nat.le_of_ble_eq_true rfl) (Nat.le_of_ble_eq_true rfl) hz rfl dL_meets_353
        · have h := iq c_959 h
          refine lv_iload hx hb dL_meets_329 (lv_at hl 5 rfl) ?_
          refine lv_if_eq (tgt := 352) hx hb dL_meets_331 (by decide) (fun c_960 => ?_) (fun c_960 => ?_)
          · have h := ip c_960 h
            refine lv_iconst (v := 0) hx hb dL_meets_352 (by decide) ?_
            obtain ⟨hz, h⟩ := zo_inv h
            obtain rfl := Option.some.inj h
            exact wrz hx hb hr hlocks hP hD hS (Nat.le_of_ble_eq_true rfl) (Nat.le_of_ble_eq_true rfl) hz rfl dL_meets_353
          · have h := iq c_960 h
            refine lv_iload hx hb dL_meets_334 (lv_at hl 4 rfl) ?_
            refine lv_if_ge (tgt := 348) hx hb dL_meets_336 (by decide) (fun c_961 => ?_) (fun c_961 => ?_)
            · have h := ip c_961 h
              refine lv_iconst (v := 1) hx hb dL_meets_348 (by decide) ?_
              refine lv_goto (tgt := 353) hx hb dL_meets_349 (by decide) ?_
              obtain ⟨hz, h⟩ := zo_inv h
              obtain rfl := Option.some.inj h
              exact wrz hx hb hr hlocks hP hD hS (Nat.le_of_ble_eq_true rfl) (Nat.le_of_ble_eq_true rfl) hz rfl dL_meets_353
            · have h := iq c_961 h
              refine lv_aload_n hx hb dL_meets_339 rfl (lv_at hl 0 rfl) ?_
              refine lv_iload_n hx hb dL_meets_340 rfl (lv_at hl 1 rfl) ?_
              refine lv_iconst (v := 1) hx hb dL_meets_341 (by decide) ?_
              obtain ⟨u_962, hc_963, h⟩ := bdn_n h
              refine wafter_i (wr := []) (w2 := (w_C G c0 l0 l1 l2 l3 m0 m1 m2 m3 m4 m5 r0 r1 r2 r3 g0 g_e l_a l_b l_c l_n m_x m_y m_d m_t m_v m_n r_s r_n r_w r_k)) (va_runV (As := [.int x1, .int 1]) (rest := []) ⟨hx, hb, hml, hown, hts⟩ (nX4_room (l := l) (G := G) c0 l0 l1 l2 l3 m0 m1 m2 m3 m4 m5 r0 r1 r2 r3 g0 g_e l_a l_b l_c l_n m_x m_y m_d m_t m_v m_n r_s r_n r_w r_k x1 1 N u_962 hc_963 _) (cwV 2 hts gL_meets_X4_room rfl rfl rfl (by decide +kernel) ⟨Nat.le_of_ble_eq_true rfl, Nat.le_of_ble_eq_true rfl⟩) (wPreV hP hD hK [0, 1, 2, 3, 4, 5, 6, 7, 8, 9, 10, 11, 12, 13, 14, 15] rfl rfl (ci := 4) (qb := 0) rfl rfl rfl) rfl rfl hl.1 rfl (lv_room (Nat.le_of_ble_eq_true rfl)) dL_meets_342 ⟨Nat.zero_le _, Nat.zero_le _⟩) hP hD hS hA [0, 1, 2, 3, 4, 5, 6, 7, 8, 9, 10, 11, 12, 13, 14, 15] [] [0, 1, 2, 3, 4, 5, 6, 7, 8, 9, 10, 11, 12, 13, 14, 15] rfl rfl rfl (by decide) rfl rfl (fun H locs hP hD hS => ?_)
              refine lv_if_ne (tgt := 352) hx hb dL_meets_345 (by decide) (fun c_964 => ?_) (fun c_964 => ?_)
              · have h := iq c_964 h
                refine lv_iconst (v := 0) hx hb dL_meets_352 (by decide) ?_
                obtain ⟨hz, h⟩ := zo_inv h
                obtain rfl := Option.some.inj h
                exact wrz hx hb hr hlocks hP hD hS (Nat.le_of_ble_eq_true rfl) (Nat.le_of_ble_eq_true rfl) hz rfl dL_meets_353
              · have h := ip c_964 h
                refine lv_iconst (v := 1) hx hb dL_meets_348 (by decide) ?_
                refine lv_goto (tgt := 353) hx hb dL_meets_349 (by decide) ?_
                obtain ⟨hz, h⟩ := zo_inv h
                obtain rfl := Option.some.inj h
                exact wrz hx hb hr hlocks hP hD hS (Nat.le_of_ble_eq_true rfl) (Nat.le_of_ble_eq_true rfl) hz rfl dL_meets_353
    · have h := iq c_955 h
      refine lv_iconst (v := 1) hx hb dL_meets_185 (by decide) ?_
      refine lv_goto (tgt := 190) hx hb dL_meets_186 (by decide) ?_
      refine lv_istore (lv' := [(16, .int 1), (15, .int u_953), (13, .long s0), (0, .ref c0), (1, .int x1), (3, .int x3), (4, .int x4), (7, .int x7), (9, .int x9), (10, .int x10), (11, .long x11)]) hx hb dL_meets_190 hl (by decide) rfl (fun ls hl => ?_)
      refine lv_iconst (v := 0) hx hb dL_meets_192 (by decide) ?_
      refine lv_istore (lv' := [(17, .int 0), (16, .int 1), (15, .int u_953), (13, .long s0), (0, .ref c0), (1, .int x1), (3, .int x3), (4, .int x4), (7, .int x7), (9, .int x9), (10, .int x10), (11, .long x11)]) hx hb dL_meets_193 hl (by decide) rfl (fun ls hl => ?_)
      refine w_195 _ _ _ _ _ _ _ _ _  () (fun x7_965 x16_966 H locs ls hP hD hS hl h => ?_) N _ _ _  _ _ _ hP hD hS (lv_sub hl [4, 5, 6, 7, 8, 9, 10, 11, 3, 2, 1, 0] rfl) h
      refine lv_iload hx hb dL_meets_319 (lv_at hl 2 rfl) ?_
      refine lv_if_eq (tgt := 352) hx hb dL_meets_321 (by decide) (fun c_967 => ?_) (fun c_967 => ?_)
      · have h := ip c_967 h
        refine lv_iconst (v := 0) hx hb dL_meets_352 (by decide) ?_
        obtain ⟨hz, h⟩ := zo_inv h
        obtain rfl := Option.some.inj h
        exact wrz hx hb hr hlocks hP hD hS (Nat.le_of_ble_eq_true rfl) (Nat.le_of_ble_eq_true rfl) hz rfl dL_meets_353
      · have h := iq c_967 h
        refine lv_iload hx hb dL_meets_324 (lv_at hl 3 rfl) ?_
        refine lv_if_eq (tgt := 352) hx hb dL_meets_326 (by decide) (fun c_968 => ?_) (fun c_968 => ?_)
        · have h := ip c_968 h
          refine lv_iconst (v := 0) hx hb dL_meets_352 (by decide) ?_
          obtain ⟨hz, h⟩ := zo_inv h
          obtain rfl := Option.some.inj h
          exact wrz hx hb hr hlocks hP hD hS (Nat.le_of_ble_eq_true rfl) (Nat.le_of_ble_eq_true rfl) hz rfl dL_meets_353
        · have h := iq c_968 h
          refine lv_iload hx hb dL_meets_329 (lv_at hl 5 rfl) ?_
          refine lv_if_eq (tgt := 352) hx hb dL_meets_331 (by decide) (fun c_969 => ?_) (fun c_969 => ?_)
          · have h := ip c_969 h
            refine lv_iconst (v := 0) hx hb dL_meets_352 (by decide) ?_
            obtain ⟨hz, h⟩ := zo_inv h
            obtain rfl := Option.some.inj h
            exact wrz hx hb hr hlocks hP hD hS (Nat.le_of_ble_eq_true rfl) (Nat.le_of_ble_eq_true rfl) hz rfl dL_meets_353
          · have h := iq c_969 h
            refine lv_iload hx hb dL_meets_334 (lv_at hl 4 rfl) ?_
            refine lv_if_ge (tgt := 348) hx hb dL_meets_336 (by decide) (fun c_970 => ?_) (fun c_970 => ?_)
            · have h := ip c_970 h
              refine lv_iconst (v := 1) hx hb dL_meets_348 (by decide) ?_
              refine lv_goto (tgt := 353) hx hb dL_meets_349 (by decide) ?_
              obtain ⟨hz, h⟩ := zo_inv h
              obtain rfl := Option.some.inj h
              exact wrz hx hb hr hlocks hP hD hS (Nat.le_of_ble_eq_true rfl) (Nat.le_of_ble_eq_true rfl) hz rfl dL_meets_353
            · have h := iq c_970 h
              refine lv_aload_n hx hb dL_meets_339 rfl (lv_at hl 0 rfl) ?_
              refine lv_iload_n hx hb dL_meets_340 rfl (lv_at hl 1 rfl) ?_
              refine lv_iconst (v := 1) hx hb dL_meets_341 (by decide) ?_
              obtain ⟨u_971, hc_972, h⟩ := bdn_n h
              refine wafter_i (wr := []) (w2 := (w_C G c0 l0 l1 l2 l3 m0 m1 m2 m3 m4 m5 r0 r1 r2 r3 g0 g_e l_a l_b l_c l_n m_x m_y m_d m_t m_v m_n r_s r_n r_w r_k)) (va_runV (As := [.int x1, .int 1]) (rest := []) ⟨hx, hb, hml, hown, hts⟩ (nX4_room (l := l) (G := G) c0 l0 l1 l2 l3 m0 m1 m2 m3 m4 m5 r0 r1 r2 r3 g0 g_e l_a l_b l_c l_n m_x m_y m_d m_t m_v m_n r_s r_n r_w r_k x1 1 N u_971 hc_972 _) (cwV 2 hts gL_meets_X4_room rfl rfl rfl (by decide +kernel) ⟨Nat.le_of_ble_eq_true rfl, Nat.le_of_ble_eq_true rfl⟩) (wPreV hP hD hK [0, 1, 2, 3, 4, 5, 6, 7, 8, 9, 10, 11, 12, 13, 14, 15] rfl rfl (ci := 4) (qb := 0) rfl rfl rfl) rfl rfl hl.1 rfl (lv_room (Nat.le_of_ble_eq_true rfl)) dL_meets_342 ⟨Nat.zero_le _, Nat.zero_le _⟩) hP hD hS hA [0, 1, 2, 3, 4, 5, 6, 7, 8, 9, 10, 11, 12, 13, 14, 15] [] [0, 1, 2, 3, 4, 5, 6, 7, 8, 9, 10, 11, 12, 13, 14, 15] rfl rfl rfl (by decide) rfl rfl (fun H locs hP hD hS => ?_)
              refine lv_if_ne (tgt := 352) hx hb dL_meets_345 (by decide) (fun c_973 => ?_) (fun c_973 => ?_)
              · have h := iq c_973 h
                refine lv_iconst (v := 0) hx hb dL_meets_352 (by decide) ?_
                obtain ⟨hz, h⟩ := zo_inv h
                obtain rfl := Option.some.inj h
                exact wrz hx hb hr hlocks hP hD hS (Nat.le_of_ble_eq_true rfl) (Nat.le_of_ble_eq_true rfl) hz rfl dL_meets_353
              · have h := ip c_973 h
                refine lv_iconst (v := 1) hx hb dL_meets_348 (by decide) ?_
                refine lv_goto (tgt := 353) hx hb dL_meets_349 (by decide) ?_
                obtain ⟨hz, h⟩ := zo_inv h
                obtain rfl := Option.some.inj h
                exact wrz hx hb hr hlocks hP hD hS (Nat.le_of_ble_eq_true rfl) (Nat.le_of_ble_eq_true rfl) hz rfl dL_meets_353
  have w_151 : ∀ (x1 : Int32) (x3 : Int32) (x4 : Int32) (x7 : Int32) (x9 : Int32) (x10 : Int32)  (s0 : Int64) (H : Heap) (locs : List Loc) (ls : Array Slot), va_P G.1 vwCl (w_C G c0 l0 l1 l2 l3 m0 m1 m2 m3 m4 m5 r0 r1 r2 r3 g0 g_e l_a l_b l_c l_n m_x m_y m_d m_t m_v m_n r_s r_n r_w r_k) H → va_D A (w_C G c0 l0 l1 l2 l3 m0 m1 m2 m3 m4 m5 r0 r1 r2 r3 g0 g_e l_a l_b l_c l_n m_x m_y m_d m_t m_v m_n r_s r_n r_w r_k) → va_S A s.heap H locs → lv_has ls 21 [(0, .ref c0), (1, .int x1), (3, .int x3), (4, .int x4), (7, .int x7), (9, .int x9), (10, .int x10)] → fL_meets_b151 N l_a l_b l_n m_x m_y m_d m_t m_v m_n r_s r_n r_k x1 x3 x4 x9 x10 x7 s0 = some v → W p l e ({ frames := 8, cells := 0, slots := 0, locals := 144 } : Room) s m args below meth c H locs 0 0 (wQi G A below args s (w_C G c0 l0 l1 l2 l3 m0 m1 m2 m3 m4 m5 r0 r1 r2 r3 g0 g_e l_a l_b l_c l_n m_x m_y m_d m_t m_v m_n r_s r_n r_w r_k) 0 0 v) (F0 m 151 ls [.long s0]) := by
    intro x1 x3 x4 x7 x9 x10 s0 H locs ls hP hD hS hl h
    rw [fL_meets_b151.eq_1] at h
    refine lv_lstore (lv' := [(11, .long s0), (0, .ref c0), (1, .int x1), (3, .int x3), (4, .int x4), (7, .int x7), (9, .int x9), (10, .int x10)]) hx hb dL_meets_151 hl (by decide) rfl (fun ls hl => ?_)
    refine lv_iload hx hb dL_meets_153 (lv_at hl 7 rfl) ?_
    refine lv_if_ge (tgt := 162) hx hb dL_meets_155 (by decide) (fun c_974 => ?_) (fun c_974 => ?_)
    · have h := ip c_974 h
      refine lv_aload_n hx hb dL_meets_162 rfl (lv_at hl 1 rfl) ?_
      refine lv_iload hx hb dL_meets_163 (lv_at hl 7 rfl) ?_
      refine lv_iconst (v := 2) hx hb dL_meets_165 (by decide) ?_
      obtain ⟨u_975, hc_976, h⟩ := bdn_n h
      refine wafter_i (wr := []) (w2 := (w_C G c0 l0 l1 l2 l3 m0 m1 m2 m3 m4 m5 r0 r1 r2 r3 g0 g_e l_a l_b l_c l_n m_x m_y m_d m_t m_v m_n r_s r_n r_w r_k)) (va_runV (As := [.int x10, .int 2]) (rest := []) ⟨hx, hb, hml, hown, hts⟩ (nX4_meet (l := l) (G := G) c0 l0 l1 l2 l3 m0 m1 m2 m3 m4 m5 r0 r1 r2 r3 g0 g_e l_a l_b l_c l_n m_x m_y m_d m_t m_v m_n r_s r_n r_w r_k x10 2 N u_975 hc_976 _) (cwV 2 hts gL_meets_X4_meet rfl rfl rfl (by decide +kernel) ⟨Nat.le_of_ble_eq_true rfl, Nat.le_of_ble_eq_true rfl⟩) (wPreV hP hD hK [0, 1, 2, 3, 4, 5, 6, 7, 8, 9, 10, 11, 12, 13, 14, 15] rfl rfl (ci := 4) (qb := 0) rfl rfl rfl) rfl rfl hl.1 rfl (lv_room (Nat.le_of_ble_eq_true rfl)) dL_meets_166 ⟨Nat.zero_le _, Nat.zero_le _⟩) hP hD hS hA [0, 1, 2, 3, 4, 5, 6, 7, 8, 9, 10, 11, 12, 13, 14, 15] [] [0, 1, 2, 3, 4, 5, 6, 7, 8, 9, 10, 11, 12, 13, 14, 15] rfl rfl rfl (by decide) rfl rfl (fun H locs hP hD hS => ?_)
      refine lv_i2l hx hb dL_meets_169 rfl ?_
      exact w_170  _ _ _ _ _ _ _  _ _ _ _  hP hD hS (lv_sub hl [1, 2, 3, 4, 5, 6, 7, 0] rfl) h
    · have h := iq c_974 h
      refine lv_lconst (v := 1) hx hb dL_meets_158 (by decide) ?_
      refine lv_goto (tgt := 170) hx hb dL_meets_159 (by decide) ?_
      exact w_170  _ _ _ _ _ _ _  _ _ _ _  hP hD hS (lv_sub hl [1, 2, 3, 4, 5, 6, 7, 0] rfl) h
  have w_59 : ∀ (x1 : Int32) (x2 : Int32) (x3 : Int32) (x4 : Int32) (x6 : Int32)  (s0 : Int32) (H : Heap) (locs : List Loc) (ls : Array Slot), va_P G.1 vwCl (w_C G c0 l0 l1 l2 l3 m0 m1 m2 m3 m4 m5 r0 r1 r2 r3 g0 g_e l_a l_b l_c l_n m_x m_y m_d m_t m_v m_n r_s r_n r_w r_k) H → va_D A (w_C G c0 l0 l1 l2 l3 m0 m1 m2 m3 m4 m5 r0 r1 r2 r3 g0 g_e l_a l_b l_c l_n m_x m_y m_d m_t m_v m_n r_s r_n r_w r_k) → va_S A s.heap H locs → lv_has ls 21 [(0, .ref c0), (1, .int x1), (2, .int x2), (3, .int x3), (4, .int x4), (6, .int x6)] → fL_meets_b59 N l_a l_b l_n m_x m_y m_d m_t m_v m_n r_s r_n r_k x1 x2 x3 x4 x6 s0 = some v → W p l e ({ frames := 8, cells := 0, slots := 0, locals := 144 } : Room) s m args below meth c H locs 0 0 (wQi G A below args s (w_C G c0 l0 l1 l2 l3 m0 m1 m2 m3 m4 m5 r0 r1 r2 r3 g0 g_e l_a l_b l_c l_n m_x m_y m_d m_t m_v m_n r_s r_n r_w r_k) 0 0 v) (F0 m 59 ls [.int s0]) := by
    intro x1 x2 x3 x4 x6 s0 H locs ls hP hD hS hl h
    rw [fL_meets_b59.eq_1] at h
    refine lv_istore (lv' := [(7, .int s0), (0, .ref c0), (1, .int x1), (2, .int x2), (3, .int x3), (4, .int x4), (6, .int x6)]) hx hb dL_meets_59 hl (by decide) rfl (fun ls hl => ?_)
    refine lv_aload_n hx hb dL_meets_61 rfl (lv_at hl 1 rfl) ?_
    refine lv_iload hx hb dL_meets_62 (lv_at hl 6 rfl) ?_
    refine lv_iconst (v := 3) hx hb dL_meets_64 (by decide) ?_
    obtain ⟨u_977, hc_978, h⟩ := bdn_n h
    refine wafter_i (wr := []) (w2 := (w_C G c0 l0 l1 l2 l3 m0 m1 m2 m3 m4 m5 r0 r1 r2 r3 g0 g_e l_a l_b l_c l_n m_x m_y m_d m_t m_v m_n r_s r_n r_w r_k)) (va_runV (As := [.int x6, .int 3]) (rest := []) ⟨hx, hb, hml, hown, hts⟩ (nX4_room (l := l) (G := G) c0 l0 l1 l2 l3 m0 m1 m2 m3 m4 m5 r0 r1 r2 r3 g0 g_e l_a l_b l_c l_n m_x m_y m_d m_t m_v m_n r_s r_n r_w r_k x6 3 N u_977 hc_978 _) (cwV 2 hts gL_meets_X4_room rfl rfl rfl (by decide +kernel) ⟨Nat.le_of_ble_eq_true rfl, Nat.le_of_ble_eq_true rfl⟩) (wPreV hP hD hK [0, 1, 2, 3, 4, 5, 6, 7, 8, 9, 10, 11, 12, 13, 14, 15] rfl rfl (ci := 4) (qb := 0) rfl rfl rfl) rfl rfl hl.1 rfl (lv_room (Nat.le_of_ble_eq_true rfl)) dL_meets_65 ⟨Nat.zero_le _, Nat.zero_le _⟩) hP hD hS hA [0, 1, 2, 3, 4, 5, 6, 7, 8, 9, 10, 11, 12, 13, 14, 15] [] [0, 1, 2, 3, 4, 5, 6, 7, 8, 9, 10, 11, 12, 13, 14, 15] rfl rfl rfl (by decide) rfl rfl (fun H locs hP hD hS => ?_)
    refine lv_istore (lv' := [(8, .int u_977), (7, .int s0), (0, .ref c0), (1, .int x1), (2, .int x2), (3, .int x3), (4, .int x4), (6, .int x6)]) hx hb dL_meets_68 hl (by decide) rfl (fun ls hl => ?_)
    refine lv_iconst (v := 0) hx hb dL_meets_70 (by decide) ?_
    refine lv_istore (lv' := [(9, .int 0), (8, .int u_977), (7, .int s0), (0, .ref c0), (1, .int x1), (2, .int x2), (3, .int x3), (4, .int x4), (6, .int x6)]) hx hb dL_meets_71 hl (by decide) rfl (fun ls hl => ?_)
    refine lv_iconst (v := 0) hx hb dL_meets_73 (by decide) ?_
    refine lv_istore (lv' := [(10, .int 0), (9, .int 0), (8, .int u_977), (7, .int s0), (0, .ref c0), (1, .int x1), (2, .int x2), (3, .int x3), (4, .int x4), (6, .int x6)]) hx hb dL_meets_74 hl (by decide) rfl (fun ls hl => ?_)
    refine w_76 _ _ _ _ _ _ _ _  () (fun x9_979 H locs ls hP hD hS hl h => ?_) N _ _  _ _ _ hP hD hS (lv_sub hl [4, 5, 6, 7, 8, 9, 3, 2, 1, 0] rfl) h
    refine lv_aload_n hx hb dL_meets_111 rfl (lv_at hl 0 rfl) ?_
    refine lv_iload_n hx hb dL_meets_112 rfl (lv_at hl 1 rfl) ?_
    refine lv_iload_n hx hb dL_meets_113 rfl (lv_at hl 2 rfl) ?_
    refine lv_iload hx hb dL_meets_114 (lv_at hl 3 rfl) ?_
    obtain ⟨u_980, hc_981, h⟩ := bdn_n h
    refine wafter_i (wr := []) (w2 := (w_C G c0 l0 l1 l2 l3 m0 m1 m2 m3 m4 m5 r0 r1 r2 r3 g0 g_e l_a l_b l_c l_n m_x m_y m_d m_t m_v m_n r_s r_n r_w r_k)) (va_runV (As := [.int x1, .int x3, .int x4]) (rest := []) ⟨hx, hb, hml, hown, hts⟩ (nX4_best (l := l) (G := G) c0 l0 l1 l2 l3 m0 m1 m2 m3 m4 m5 r0 r1 r2 r3 g0 g_e l_a l_b l_c l_n m_x m_y m_d m_t m_v m_n r_s r_n r_w r_k x1 x3 x4 N u_980 hc_981 _) (cwV 3 hts gL_meets_X4_best rfl rfl rfl (by decide +kernel) ⟨Nat.le_of_ble_eq_true rfl, Nat.le_of_ble_eq_true rfl⟩) (wPreV hP hD hK [0, 1, 2, 3, 4, 5, 6, 7, 8, 9, 10, 11, 12, 13, 14, 15] rfl rfl (ci := 4) (qb := 0) rfl rfl rfl) rfl rfl hl.1 rfl (lv_room (Nat.le_of_ble_eq_true rfl)) dL_meets_116 ⟨Nat.zero_le _, Nat.zero_le _⟩) hP hD hS hA [0, 1, 2, 3, 4, 5, 6, 7, 8, 9, 10, 11, 12, 13, 14, 15] [] [0, 1, 2, 3, 4, 5, 6, 7, 8, 9, 10, 11, 12, 13, 14, 15] rfl rfl rfl (by decide) rfl rfl (fun H locs hP hD hS => ?_)
    refine lv_istore (lv' := [(10, .int u_980), (0, .ref c0), (1, .int x1), (3, .int x3), (4, .int x4), (7, .int s0), (9, .int x9_979)]) hx hb dL_meets_119 hl (by decide) rfl (fun ls hl => ?_)
    refine lv_iload hx hb dL_meets_121 (lv_at hl 0 rfl) ?_
    refine lv_if_ge (tgt := 130) hx hb dL_meets_123 (by decide) (fun c_982 => ?_) (fun c_982 => ?_)
    · have h := ip c_982 h
      refine lv_iload_n hx hb dL_meets_130 rfl (lv_at hl 3 rfl) ?_
      refine lv_aload_n hx hb dL_meets_131 rfl (lv_at hl 1 rfl) ?_
      refine lv_iload hx hb dL_meets_132 (lv_at hl 0 rfl) ?_
      refine lv_iconst (v := 0) hx hb dL_meets_134 (by decide) ?_
      obtain ⟨u_983, hc_984, h⟩ := bdn_n h
      refine wafter_i (wr := []) (w2 := (w_C G c0 l0 l1 l2 l3 m0 m1 m2 m3 m4 m5 r0 r1 r2 r3 g0 g_e l_a l_b l_c l_n m_x m_y m_d m_t m_v m_n r_s r_n r_w r_k)) (va_runV (As := [.int u_980, .int 0]) (rest := [.int x3]) ⟨hx, hb, hml, hown, hts⟩ (nX4_meet (l := l) (G := G) c0 l0 l1 l2 l3 m0 m1 m2 m3 m4 m5 r0 r1 r2 r3 g0 g_e l_a l_b l_c l_n m_x m_y m_d m_t m_v m_n r_s r_n r_w r_k u_980 0 N u_983 hc_984 _) (cwV 2 hts gL_meets_X4_meet rfl rfl rfl (by decide +kernel) ⟨Nat.le_of_ble_eq_true rfl, Nat.le_of_ble_eq_true rfl⟩) (wPreV hP hD hK [0, 1, 2, 3, 4, 5, 6, 7, 8, 9, 10, 11, 12, 13, 14, 15] rfl rfl (ci := 4) (qb := 0) rfl rfl rfl) rfl rfl hl.1 rfl (lv_room (Nat.le_of_ble_eq_true rfl)) dL_meets_135 ⟨Nat.zero_le _, Nat.zero_le _⟩) hP hD hS hA [0, 1, 2, 3, 4, 5, 6, 7, 8, 9, 10, 11, 12, 13, 14, 15] [] [0, 1, 2, 3, 4, 5, 6, 7, 8, 9, 10, 11, 12, 13, 14, 15] rfl rfl rfl (by decide) rfl rfl (fun H locs hP hD hS => ?_)
      refine lv_imul hx hb dL_meets_138 ?_
      refine lv_iload hx hb dL_meets_139 (lv_at hl 4 rfl) ?_
      refine lv_aload_n hx hb dL_meets_141 rfl (lv_at hl 1 rfl) ?_
      refine lv_iload hx hb dL_meets_142 (lv_at hl 0 rfl) ?_
      refine lv_iconst (v := 1) hx hb dL_meets_144 (by decide) ?_
      obtain ⟨u_985, hc_986, h⟩ := bdn_n h
      refine wafter_i (wr := []) (w2 := (w_C G c0 l0 l1 l2 l3 m0 m1 m2 m3 m4 m5 r0 r1 r2 r3 g0 g_e l_a l_b l_c l_n m_x m_y m_d m_t m_v m_n r_s r_n r_w r_k)) (va_runV (As := [.int u_980, .int 1]) (rest := [.int x4, .int (x3 * u_983)]) ⟨hx, hb, hml, hown, hts⟩ (nX4_meet (l := l) (G := G) c0 l0 l1 l2 l3 m0 m1 m2 m3 m4 m5 r0 r1 r2 r3 g0 g_e l_a l_b l_c l_n m_x m_y m_d m_t m_v m_n r_s r_n r_w r_k u_980 1 N u_985 hc_986 _) (cwV 2 hts gL_meets_X4_meet rfl rfl rfl (by decide +kernel) ⟨Nat.le_of_ble_eq_true rfl, Nat.le_of_ble_eq_true rfl⟩) (wPreV hP hD hK [0, 1, 2, 3, 4, 5, 6, 7, 8, 9, 10, 11, 12, 13, 14, 15] rfl rfl (ci := 4) (qb := 0) rfl rfl rfl) rfl rfl hl.1 rfl (lv_room (Nat.le_of_ble_eq_true rfl)) dL_meets_145 ⟨Nat.zero_le _, Nat.zero_le _⟩) hP hD hS hA [0, 1, 2, 3, 4, 5, 6, 7, 8, 9, 10, 11, 12, 13, 14, 15] [] [0, 1, 2, 3, 4, 5, 6, 7, 8, 9, 10, 11, 12, 13, 14, 15] rfl rfl rfl (by decide) rfl rfl (fun H locs hP hD hS => ?_)
      refine lv_imul hx hb dL_meets_148 ?_
      refine lv_iadd hx hb dL_meets_149 ?_
      refine lv_i2l hx hb dL_meets_150 rfl ?_
      exact w_151  _ _ _ _ _ _  _ _ _ _  hP hD hS (lv_sub hl [1, 2, 3, 4, 5, 6, 0] rfl) h
    · have h := iq c_982 h
      refine lv_lconst (v := 0) hx hb dL_meets_126 (by decide) ?_
      refine lv_goto (tgt := 151) hx hb dL_meets_127 (by decide) ?_
      exact w_151  _ _ _ _ _ _  _ _ _ _  hP hD hS (lv_sub hl [1, 2, 3, 4, 5, 6, 0] rfl) h
  rw [fL_meets.eq_1] at h
  refine lv_aload_n hx hb dL_meets_0 rfl (lv_at hl 0 rfl) ?_
  refine lv_iload_n hx hb dL_meets_1 rfl (lv_at hl 2 rfl) ?_
  refine lv_iconst (v := 3) hx hb dL_meets_2 (by decide) ?_
  obtain ⟨u_987, hc_988, h⟩ := bdn_n h
  refine wafter_i (wr := []) (w2 := (w_C G c0 l0 l1 l2 l3 m0 m1 m2 m3 m4 m5 r0 r1 r2 r3 g0 g_e l_a l_b l_c l_n m_x m_y m_d m_t m_v m_n r_s r_n r_w r_k)) (va_runV (As := [.int x2, .int 3]) (rest := []) ⟨hx, hb, hml, hown, hts⟩ (nX4_meet (l := l) (G := G) c0 l0 l1 l2 l3 m0 m1 m2 m3 m4 m5 r0 r1 r2 r3 g0 g_e l_a l_b l_c l_n m_x m_y m_d m_t m_v m_n r_s r_n r_w r_k x2 3 N u_987 hc_988 _) (cwV 2 hts gL_meets_X4_meet rfl rfl rfl (by decide +kernel) ⟨Nat.le_of_ble_eq_true rfl, Nat.le_of_ble_eq_true rfl⟩) (wPreV hP hD hK [0, 1, 2, 3, 4, 5, 6, 7, 8, 9, 10, 11, 12, 13, 14, 15] rfl rfl (ci := 4) (qb := 0) rfl rfl rfl) rfl rfl hl.1 rfl (lv_room (Nat.le_of_ble_eq_true rfl)) dL_meets_3 ⟨Nat.zero_le _, Nat.zero_le _⟩) hP hD hS hA [0, 1, 2, 3, 4, 5, 6, 7, 8, 9, 10, 11, 12, 13, 14, 15] [] [0, 1, 2, 3, 4, 5, 6, 7, 8, 9, 10, 11, 12, 13, 14, 15] rfl rfl rfl (by decide) rfl rfl (fun H locs hP hD hS => ?_)
  refine lv_istore (lv' := [(5, .int u_987), (0, .ref c0), (1, .int x1), (2, .int x2), (3, .int x3), (4, .int x4)]) hx hb dL_meets_6 hl (by decide) rfl (fun ls hl => ?_)
  refine lv_aload_n hx hb dL_meets_8 rfl (lv_at hl 1 rfl) ?_
  refine lv_iload_n hx hb dL_meets_9 rfl (lv_at hl 2 rfl) ?_
  refine lv_iload_n hx hb dL_meets_10 rfl (lv_at hl 3 rfl) ?_
  obtain ⟨u_989, hc_990, h⟩ := bdn_n h
  refine wafter_i (wr := []) (w2 := (w_C G c0 l0 l1 l2 l3 m0 m1 m2 m3 m4 m5 r0 r1 r2 r3 g0 g_e l_a l_b l_c l_n m_x m_y m_d m_t m_v m_n r_s r_n r_w r_k)) (va_runV (As := [.int x1, .int x2]) (rest := []) ⟨hx, hb, hml, hown, hts⟩ (nX4_project (l := l) (G := G) c0 l0 l1 l2 l3 m0 m1 m2 m3 m4 m5 r0 r1 r2 r3 g0 g_e l_a l_b l_c l_n m_x m_y m_d m_t m_v m_n r_s r_n r_w r_k x1 x2 N u_989 hc_990 _) (cwV 2 hts gL_meets_X4_project rfl rfl rfl (by decide +kernel) ⟨Nat.le_of_ble_eq_true rfl, Nat.le_of_ble_eq_true rfl⟩) (wPreV hP hD hK [0, 1, 2, 3, 4, 5, 6, 7, 8, 9, 10, 11, 12, 13, 14, 15] rfl rfl (ci := 4) (qb := 0) rfl rfl rfl) rfl rfl hl.1 rfl (lv_room (Nat.le_of_ble_eq_true rfl)) dL_meets_11 ⟨Nat.zero_le _, Nat.zero_le _⟩) hP hD hS hA [0, 1, 2, 3, 4, 5, 6, 7, 8, 9, 10, 11, 12, 13, 14, 15] [] [0, 1, 2, 3, 4, 5, 6, 7, 8, 9, 10, 11, 12, 13, 14, 15] rfl rfl rfl (by decide) rfl rfl (fun H locs hP hD hS => ?_)
  refine lv_istore (lv' := [(6, .int u_989), (5, .int u_987), (0, .ref c0), (1, .int x1), (2, .int x2), (3, .int x3), (4, .int x4)]) hx hb dL_meets_14 hl (by decide) rfl (fun ls hl => ?_)
  refine lv_aload_n hx hb dL_meets_16 rfl (lv_at hl 2 rfl) ?_
  refine lv_iload_n hx hb dL_meets_17 rfl (lv_at hl 4 rfl) ?_
  refine lv_iconst (v := 2) hx hb dL_meets_18 (by decide) ?_
  obtain ⟨u_991, hc_992, h⟩ := bdn_n h
  refine wafter_i (wr := []) (w2 := (w_C G c0 l0 l1 l2 l3 m0 m1 m2 m3 m4 m5 r0 r1 r2 r3 g0 g_e l_a l_b l_c l_n m_x m_y m_d m_t m_v m_n r_s r_n r_w r_k)) (va_runV (As := [.int x2, .int 2]) (rest := []) ⟨hx, hb, hml, hown, hts⟩ (nX4_meet (l := l) (G := G) c0 l0 l1 l2 l3 m0 m1 m2 m3 m4 m5 r0 r1 r2 r3 g0 g_e l_a l_b l_c l_n m_x m_y m_d m_t m_v m_n r_s r_n r_w r_k x2 2 N u_991 hc_992 _) (cwV 2 hts gL_meets_X4_meet rfl rfl rfl (by decide +kernel) ⟨Nat.le_of_ble_eq_true rfl, Nat.le_of_ble_eq_true rfl⟩) (wPreV hP hD hK [0, 1, 2, 3, 4, 5, 6, 7, 8, 9, 10, 11, 12, 13, 14, 15] rfl rfl (ci := 4) (qb := 0) rfl rfl rfl) rfl rfl hl.1 rfl (lv_room (Nat.le_of_ble_eq_true rfl)) dL_meets_19 ⟨Nat.zero_le _, Nat.zero_le _⟩) hP hD hS hA [0, 1, 2, 3, 4, 5, 6, 7, 8, 9, 10, 11, 12, 13, 14, 15] [] [0, 1, 2, 3, 4, 5, 6, 7, 8, 9, 10, 11, 12, 13, 14, 15] rfl rfl rfl (by decide) rfl rfl (fun H locs hP hD hS => ?_)
  refine lv_if_le (tgt := 58) hx hb dL_meets_22 (by decide) (fun c_993 => ?_) (fun c_993 => ?_)
  · have h := ip c_993 h
    refine lv_iconst (v := 0) hx hb dL_meets_58 (by decide) ?_
    exact w_59  _ _ _ _ _  _ _ _ _  hP hD hS (lv_sub hl [2, 3, 4, 5, 6, 0] rfl) h
  · have h := iq c_993 h
    refine lv_iload hx hb dL_meets_25 (lv_at hl 1 rfl) ?_
    obtain ⟨u_994, hc_995, h⟩ := bd_inv h
    refine wafter_i (wr := (w_C G c0 l0 l1 l2 l3 m0 m1 m2 m3 m4 m5 r0 r1 r2 r3 g0 g_e l_a l_b l_c l_n m_x m_y m_d m_t m_v m_n r_s r_n r_w r_k)) (w2 := (w_C G c0 l0 l1 l2 l3 m0 m1 m2 m3 m4 m5 r0 r1 r2 r3 g0 g_e l_a l_b l_c l_n m_x m_y m_d m_t m_v m_n r_s r_n r_w r_k)) (va_runS (As := [.int u_987]) (rest := []) ⟨hx, hb, hml, hown, hts⟩ (kL_size (l := l) (G := G)   u_987 N u_994 hc_995 _) (va_cwS 1 hts gL_meets_L_size rfl rfl rfl (by decide +kernel) ⟨Nat.le_of_ble_eq_true rfl, Nat.le_of_ble_eq_true rfl⟩) (wPreS hP hD hK [] rfl rfl) rfl rfl hl.1 rfl (lv_room (Nat.le_of_ble_eq_true rfl)) dL_meets_27 ⟨Nat.zero_le _, Nat.zero_le _⟩) hP hD hS hA [] [0, 1, 2, 3, 4, 5, 6, 7, 8, 9, 10, 11, 12, 13, 14, 15] [0, 1, 2, 3, 4, 5, 6, 7, 8, 9, 10, 11, 12, 13, 14, 15] rfl rfl rfl (by decide) rfl rfl (fun H locs hP hD hS => ?_)
    refine lv_iconst (v := 1) hx hb dL_meets_30 (by decide) ?_
    refine lv_icmp_le (tgt := 58) hx hb dL_meets_31 (by decide) (fun c_996 => ?_) (fun c_996 => ?_)
    · have h := ip c_996 h
      refine lv_iconst (v := 0) hx hb dL_meets_58 (by decide) ?_
      exact w_59  _ _ _ _ _  _ _ _ _  hP hD hS (lv_sub hl [2, 3, 4, 5, 6, 0] rfl) h
    · have h := iq c_996 h
      refine lv_aload_n hx hb dL_meets_34 rfl (lv_at hl 2 rfl) ?_
      refine lv_iload hx hb dL_meets_35 (lv_at hl 0 rfl) ?_
      refine lv_iconst (v := 0) hx hb dL_meets_37 (by decide) ?_
      obtain ⟨u_997, hc_998, h⟩ := bdn_n h
      refine wafter_i (wr := []) (w2 := (w_C G c0 l0 l1 l2 l3 m0 m1 m2 m3 m4 m5 r0 r1 r2 r3 g0 g_e l_a l_b l_c l_n m_x m_y m_d m_t m_v m_n r_s r_n r_w r_k)) (va_runV (As := [.int u_989, .int 0]) (rest := []) ⟨hx, hb, hml, hown, hts⟩ (nX4_room (l := l) (G := G) c0 l0 l1 l2 l3 m0 m1 m2 m3 m4 m5 r0 r1 r2 r3 g0 g_e l_a l_b l_c l_n m_x m_y m_d m_t m_v m_n r_s r_n r_w r_k u_989 0 N u_997 hc_998 _) (cwV 2 hts gL_meets_X4_room rfl rfl rfl (by decide +kernel) ⟨Nat.le_of_ble_eq_true rfl, Nat.le_of_ble_eq_true rfl⟩) (wPreV hP hD hK [0, 1, 2, 3, 4, 5, 6, 7, 8, 9, 10, 11, 12, 13, 14, 15] rfl rfl (ci := 4) (qb := 0) rfl rfl rfl) rfl rfl hl.1 rfl (lv_room (Nat.le_of_ble_eq_true rfl)) dL_meets_38 ⟨Nat.zero_le _, Nat.zero_le _⟩) hP hD hS hA [0, 1, 2, 3, 4, 5, 6, 7, 8, 9, 10, 11, 12, 13, 14, 15] [] [0, 1, 2, 3, 4, 5, 6, 7, 8, 9, 10, 11, 12, 13, 14, 15] rfl rfl rfl (by decide) rfl rfl (fun H locs hP hD hS => ?_)
      refine lv_aload_n hx hb dL_meets_41 rfl (lv_at hl 2 rfl) ?_
      refine lv_iload_n hx hb dL_meets_42 rfl (lv_at hl 3 rfl) ?_
      refine lv_iconst (v := 0) hx hb dL_meets_43 (by decide) ?_
      obtain ⟨u_999, hc_1000, h⟩ := bdn_n h
      refine wafter_i (wr := []) (w2 := (w_C G c0 l0 l1 l2 l3 m0 m1 m2 m3 m4 m5 r0 r1 r2 r3 g0 g_e l_a l_b l_c l_n m_x m_y m_d m_t m_v m_n r_s r_n r_w r_k)) (va_runV (As := [.int x1, .int 0]) (rest := [.int u_997]) ⟨hx, hb, hml, hown, hts⟩ (nX4_room (l := l) (G := G) c0 l0 l1 l2 l3 m0 m1 m2 m3 m4 m5 r0 r1 r2 r3 g0 g_e l_a l_b l_c l_n m_x m_y m_d m_t m_v m_n r_s r_n r_w r_k x1 0 N u_999 hc_1000 _) (cwV 2 hts gL_meets_X4_room rfl rfl rfl (by decide +kernel) ⟨Nat.le_of_ble_eq_true rfl, Nat.le_of_ble_eq_true rfl⟩) (wPreV hP hD hK [0, 1, 2, 3, 4, 5, 6, 7, 8, 9, 10, 11, 12, 13, 14, 15] rfl rfl (ci := 4) (qb := 0) rfl rfl rfl) rfl rfl hl.1 rfl (lv_room (Nat.le_of_ble_eq_true rfl)) dL_meets_44 ⟨Nat.zero_le _, Nat.zero_le _⟩) hP hD hS hA [0, 1, 2, 3, 4, 5, 6, 7, 8, 9, 10, 11, 12, 13, 14, 15] [] [0, 1, 2, 3, 4, 5, 6, 7, 8, 9, 10, 11, 12, 13, 14, 15] rfl rfl rfl (by decide) rfl rfl (fun H locs hP hD hS => ?_)
      refine lv_ixor hx hb dL_meets_47 ?_
      refine lv_iload hx hb dL_meets_48 (lv_at hl 1 rfl) ?_
      refine lv_iand hx hb dL_meets_50 ?_
      refine lv_if_ne (tgt := 58) hx hb dL_meets_51 (by decide) (fun c_1001 => ?_) (fun c_1001 => ?_)
      · have h := iq c_1001 h
        refine lv_iconst (v := 0) hx hb dL_meets_58 (by decide) ?_
        exact w_59  _ _ _ _ _  _ _ _ _  hP hD hS (lv_sub hl [2, 3, 4, 5, 6, 0] rfl) h
      · have h := ip c_1001 h
        refine lv_iconst (v := 1) hx hb dL_meets_54 (by decide) ?_
        refine lv_goto (tgt := 59) hx hb dL_meets_55 (by decide) ?_
        exact w_59  _ _ _ _ _  _ _ _ _  hP hD hS (lv_sub hl [2, 3, 4, 5, 6, 0] rfl) h
def fL_mirrors_b69 (N : Nat) (x4 : Int32) (x6 : Int32) (x5 : Int32) (s0 : Int32) (s1 : Int32) (k_16 : Int32 → Int32 → Option (Int32)) : Option (Int32) := if x4 = x5 then if x6 = x4 then k_16 ((s0 &&& s1) &&& 1) (x5 + 1) else k_16 ((s0 &&& s1) &&& 0) (x5 + 1) else k_16 ((s0 &&& s1) &&& 1) (x5 + 1)
def fL_mirrors_b43 (N : Nat) (l_a : Nat → Int32) (l_b : Nat → Int32) (l_c : Nat → Int32) (l_n : Int32) (x4 : Int32) (x6 : Int32) (x3 : Int32) (x5 : Int32) (s0 : Int32) (s1 : Int32) (k_16 : Int32 → Int32 → Int32 → Option (Int32)) : Option (Int32) := if x6 < 0 then fL_mirrors_b69 N x4 x6 x5 x3 1 (fun (x3_1005 : Int32) (x5_1006 : Int32) => k_16 (s0 &&& s1) x3_1005 x5_1006) else bdn (fX4_reflected N l_a l_b l_c l_n x6 x5) (fun u_1007 => if u_1007 = x4 then fL_mirrors_b69 N x4 x6 x5 x3 1 (fun (x3_1012 : Int32) (x5_1013 : Int32) => k_16 (s0 &&& s1) x3_1012 x5_1013) else fL_mirrors_b69 N x4 x6 x5 x3 0 (fun (x3_1010 : Int32) (x5_1011 : Int32) => k_16 (s0 &&& s1) x3_1010 x5_1011))
def fL_mirrors_b16 (N : Nat) (l_a : Nat → Int32) (l_b : Nat → Int32) (l_c : Nat → Int32) (l_n : Int32) (x1 : Int32) (x4 : Int32) (k_99 : Int32 → Int32 → Option (Int32)) : Nat → Int32 → Int32 → Int32 → Option (Int32)
  | 0, _, _, _ => none
  | n + 1, x2, x3, x5 => if x1 ≤ x5 then k_99 x2 x3 else bdn (fX4_reflected N l_a l_b l_c l_n x4 x5) (fun u_1015 => if u_1015 < 0 then fL_mirrors_b43 N l_a l_b l_c l_n x4 u_1015 x3 x5 x2 0 (fun (x2_1018 : Int32) (x3_1019 : Int32) (x5_1020 : Int32) => fL_mirrors_b16 N l_a l_b l_c l_n x1 x4 k_99 n x2_1018 x3_1019 x5_1020) else fL_mirrors_b43 N l_a l_b l_c l_n x4 u_1015 x3 x5 x2 1 (fun (x2_1021 : Int32) (x3_1022 : Int32) (x5_1023 : Int32) => fL_mirrors_b16 N l_a l_b l_c l_n x1 x4 k_99 n x2_1021 x3_1022 x5_1023))
def fL_mirrors_b7 (N : Nat) (l_a : Nat → Int32) (l_b : Nat → Int32) (l_c : Nat → Int32) (l_n : Int32) (x1 : Int32) (k_105 : Int32 → Int32 → Option (Int32)) : Nat → Int32 → Int32 → Int32 → Option (Int32)
  | 0, _, _, _ => none
  | n + 1, x2, x3, x4 => if x1 ≤ x4 then k_105 x2 x3 else fL_mirrors_b16 N l_a l_b l_c l_n x1 x4 (fun (x2_1025 : Int32) (x3_1026 : Int32) => fL_mirrors_b7 N l_a l_b l_c l_n x1 k_105 n x2_1025 x3_1026 (x4 + 1)) N x2 x3 0
def fL_mirrors (N : Nat) (l_a : Nat → Int32) (l_b : Nat → Int32) (l_c : Nat → Int32) (l_n : Int32) (x1 : Int32) : Option (Int32) := fL_mirrors_b7 N l_a l_b l_c l_n x1 (fun (x2_1027 : Int32) (x3_1028 : Int32) => if x3_1028 = 0 then zo 0 (some 0) else bd (fX4_isKaleidoscope N l_a l_b l_c l_n) (fun u_1030 => if u_1030 = x2_1027 then zo 1 (some 1) else zo 0 (some 0))) N 1 1 0
set_option maxHeartbeats 4000000 in
set_option maxRecDepth 100000 in
theorem kL_mirrors {l : Launch} {G : wG} (c0 l0 l1 l2 l3 m0 m1 m2 m3 m4 m5 r0 r1 r2 r3 g0 : Nat) (g_e : Int64) (l_a : Nat → Int32) (l_b : Nat → Int32) (l_c : Nat → Int32) (l_n : Int32) (m_x : Nat → Int32) (m_y : Nat → Int32) (m_d : Nat → Int32) (m_t : Nat → Int32) (m_v : Nat → Int32) (m_n : Int32) (r_s : Nat → Int32) (r_n : Nat → Int32) (r_w : Nat → Int32) (r_k : Int32) (x1 : Int32) (N : Nat) (v : Int32) (h : fL_mirrors N l_a l_b l_c l_n x1 = some v) : wCi l G yL_mirrors wsL_mirrors ({ frames := 8, cells := 0, slots := 0, locals := 143 } : Room) [.ref c0, .int x1] (w_C G c0 l0 l1 l2 l3 m0 m1 m2 m3 m4 m5 r0 r1 r2 r3 g0 g_e l_a l_b l_c l_n m_x m_y m_d m_t m_v m_n r_s r_n r_w r_k) (w_C G c0 l0 l1 l2 l3 m0 m1 m2 m3 m4 m5 r0 r1 r2 r3 g0 g_e l_a l_b l_c l_n m_x m_y m_d m_t m_v m_n r_s r_n r_w r_k) 0 0 v := by
  refine wCi.mk (cc := cL_mirrors) (maxL := 7) (ty := .boolean) (by decide) rfl (Nat.le_of_ble_eq_true rfl) ?_
  intro p e s m below meth c A ls hx hb hml hr hlocks hts hown hK hA hP hD hl
  have hx : p.tables.exec = Jvm.exec := hx
  have hown : s.vm.findClass RL = some m.cls := hown
  have hS : va_S A s.heap s.heap [] := va_S.rf
  have hP : va_P G.1 vwCl (w_C G c0 l0 l1 l2 l3 m0 m1 m2 m3 m4 m5 r0 r1 r2 r3 g0 g_e l_a l_b l_c l_n m_x m_y m_d m_t m_v m_n r_s r_n r_w r_k) s.heap := hP
  have hD : va_D A (w_C G c0 l0 l1 l2 l3 m0 m1 m2 m3 m4 m5 r0 r1 r2 r3 g0 g_e l_a l_b l_c l_n m_x m_y m_d m_t m_v m_n r_s r_n r_w r_k) := hD
  have hl : lv_has ls 7 [(0, .ref c0), (1, .int x1)] := hl
  obtain ⟨args, hargs⟩ : ∃ z : Array Value, z = ([.ref c0, .int x1] : List Value).toArray := ⟨_, rfl⟩
  rw [← hargs]
  rw [← hargs] at hts
  have w_69 : ∀ (k_16 : Int32 → Int32 → Option (Int32)) (x1 : Int32) (x2 : Int32) (x4 : Int32) (x5 : Int32) (x6 : Int32)  (s0 : Int32) (s1 : Int32) (H : Heap) (locs : List Loc) (ls : Array Slot), (∀ (y3 : Int32) (y5 : Int32) (H : Heap) (locs : List Loc) (ls : Array Slot), va_P G.1 vwCl (w_C G c0 l0 l1 l2 l3 m0 m1 m2 m3 m4 m5 r0 r1 r2 r3 g0 g_e l_a l_b l_c l_n m_x m_y m_d m_t m_v m_n r_s r_n r_w r_k) H → va_D A (w_C G c0 l0 l1 l2 l3 m0 m1 m2 m3 m4 m5 r0 r1 r2 r3 g0 g_e l_a l_b l_c l_n m_x m_y m_d m_t m_v m_n r_s r_n r_w r_k) → va_S A s.heap H locs → lv_has ls 7 [(0, .ref c0), (1, .int x1), (2, .int x2), (3, .int y3), (4, .int x4), (5, .int y5)] → k_16 y3 y5 = some v → W p l e ({ frames := 8, cells := 0, slots := 0, locals := 143 } : Room) s m args below meth c H locs 0 0 (wQi G A below args s (w_C G c0 l0 l1 l2 l3 m0 m1 m2 m3 m4 m5 r0 r1 r2 r3 g0 g_e l_a l_b l_c l_n m_x m_y m_d m_t m_v m_n r_s r_n r_w r_k) 0 0 v) (F0 m 16 ls [])) → va_P G.1 vwCl (w_C G c0 l0 l1 l2 l3 m0 m1 m2 m3 m4 m5 r0 r1 r2 r3 g0 g_e l_a l_b l_c l_n m_x m_y m_d m_t m_v m_n r_s r_n r_w r_k) H → va_D A (w_C G c0 l0 l1 l2 l3 m0 m1 m2 m3 m4 m5 r0 r1 r2 r3 g0 g_e l_a l_b l_c l_n m_x m_y m_d m_t m_v m_n r_s r_n r_w r_k) → va_S A s.heap H locs → lv_has ls 7 [(0, .ref c0), (1, .int x1), (2, .int x2), (4, .int x4), (5, .int x5), (6, .int x6)] → fL_mirrors_b69 N x4 x6 x5 s0 s1 k_16 = some v → W p l e ({ frames := 8, cells := 0, slots := 0, locals := 143 } : Room) s m args below meth c H locs 0 0 (wQi G A below args s (w_C G c0 l0 l1 l2 l3 m0 m1 m2 m3 m4 m5 r0 r1 r2 r3 g0 g_e l_a l_b l_c l_n m_x m_y m_d m_t m_v m_n r_s r_n r_w r_k) 0 0 v) (F0 m 69 ls [.int s1, .int s0]) := by
    intro k_16 x1 x2 x4 x5 x6 s0 s1 H locs ls hk_16 hP hD hS hl h
    rw [fL_mirrors_b69.eq_1] at h
    refine lv_iand hx hb dL_mirrors_69 ?_
    refine lv_istore_n (lv' := [(3, .int (s0 &&& s1)), (0, .ref c0), (1, .int x1), (2, .int x2), (4, .int x4), (5, .int x5), (6, .int x6)]) hx hb dL_mirrors_70 rfl hl (by decide) rfl (fun ls hl => ?_)
    refine lv_iload_n hx hb dL_mirrors_71 rfl (lv_at hl 0 rfl) ?_
    refine lv_iload hx hb dL_mirrors_72 (lv_at hl 4 rfl) ?_
    refine lv_iload hx hb dL_mirrors_74 (lv_at hl 5 rfl) ?_
    refine lv_icmp_ne (tgt := 86) hx hb dL_mirrors_76 (by decide) (fun c_1002 => ?_) (fun c_1002 => ?_)
    · have h := iq c_1002 h
      refine lv_iconst (v := 1) hx hb dL_mirrors_86 (by decide) ?_
      refine lv_goto (tgt := 91) hx hb dL_mirrors_87 (by decide) ?_
      refine lv_iand hx hb dL_mirrors_91 ?_
      refine lv_istore_n (lv' := [(3, .int ((s0 &&& s1) &&& 1)), (0, .ref c0), (1, .int x1), (2, .int x2), (4, .int x4), (5, .int x5), (6, .int x6)]) hx hb dL_mirrors_92 rfl hl (by decide) rfl (fun ls hl => ?_)
      refine lv_iinc (v := (x5 + 1)) (lv' := [(5, .int (x5 + 1)), (3, .int ((s0 &&& s1) &&& 1)), (0, .ref c0), (1, .int x1), (2, .int x2), (4, .int x4), (6, .int x6)]) hx hb dL_mirrors_93 hl (k := 5) rfl rfl (by decide) rfl (fun ls hl => ?_)
      refine lv_goto (tgt := 16) hx hb dL_mirrors_96 (by decide) ?_
      exact hk_16 _ _ _ _ _ hP hD hS (lv_sub hl [2, 3, 4, 1, 5, 0] rfl) h
    · have h := ip c_1002 h
      refine lv_iload hx hb dL_mirrors_79 (lv_at hl 6 rfl) ?_
      refine lv_iload hx hb dL_mirrors_81 (lv_at hl 4 rfl) ?_
      refine lv_icmp_ne (tgt := 90) hx hb dL_mirrors_83 (by decide) (fun c_1003 => ?_) (fun c_1003 => ?_)
      · have h := iq c_1003 h
        refine lv_iconst (v := 0) hx hb dL_mirrors_90 (by decide) ?_
        refine lv_iand hx hb dL_mirrors_91 ?_
        refine lv_istore_n (lv' := [(3, .int ((s0 &&& s1) &&& 0)), (0, .ref c0), (1, .int x1), (2, .int x2), (4, .int x4), (5, .int x5), (6, .int x6)]) hx hb dL_mirrors_92 rfl hl (by decide) rfl (fun ls hl => ?_)
        refine lv_iinc (v := (x5 + 1)) (lv' := [(5, .int (x5 + 1)), (3, .int ((s0 &&& s1) &&& 0)), (0, .ref c0), (1, .int x1), (2, .int x2), (4, .int x4), (6, .int x6)]) hx hb dL_mirrors_93 hl (k := 5) rfl rfl (by decide) rfl (fun ls hl => ?_)
        refine lv_goto (tgt := 16) hx hb dL_mirrors_96 (by decide) ?_
        exact hk_16 _ _ _ _ _ hP hD hS (lv_sub hl [2, 3, 4, 1, 5, 0] rfl) h
      · have h := ip c_1003 h
        refine lv_iconst (v := 1) hx hb dL_mirrors_86 (by decide) ?_
        refine lv_goto (tgt := 91) hx hb dL_mirrors_87 (by decide) ?_
        refine lv_iand hx hb dL_mirrors_91 ?_
        refine lv_istore_n (lv' := [(3, .int ((s0 &&& s1) &&& 1)), (0, .ref c0), (1, .int x1), (2, .int x2), (4, .int x4), (5, .int x5), (6, .int x6)]) hx hb dL_mirrors_92 rfl hl (by decide) rfl (fun ls hl => ?_)
        refine lv_iinc (v := (x5 + 1)) (lv' := [(5, .int (x5 + 1)), (3, .int ((s0 &&& s1) &&& 1)), (0, .ref c0), (1, .int x1), (2, .int x2), (4, .int x4), (6, .int x6)]) hx hb dL_mirrors_93 hl (k := 5) rfl rfl (by decide) rfl (fun ls hl => ?_)
        refine lv_goto (tgt := 16) hx hb dL_mirrors_96 (by decide) ?_
        exact hk_16 _ _ _ _ _ hP hD hS (lv_sub hl [2, 3, 4, 1, 5, 0] rfl) h
  have w_43 : ∀ (k_16 : Int32 → Int32 → Int32 → Option (Int32)) (x1 : Int32) (x3 : Int32) (x4 : Int32) (x5 : Int32) (x6 : Int32)  (s0 : Int32) (s1 : Int32) (H : Heap) (locs : List Loc) (ls : Array Slot), (∀ (y2 : Int32) (y3 : Int32) (y5 : Int32) (H : Heap) (locs : List Loc) (ls : Array Slot), va_P G.1 vwCl (w_C G c0 l0 l1 l2 l3 m0 m1 m2 m3 m4 m5 r0 r1 r2 r3 g0 g_e l_a l_b l_c l_n m_x m_y m_d m_t m_v m_n r_s r_n r_w r_k) H → va_D A (w_C G c0 l0 l1 l2 l3 m0 m1 m2 m3 m4 m5 r0 r1 r2 r3 g0 g_e l_a l_b l_c l_n m_x m_y m_d m_t m_v m_n r_s r_n r_w r_k) → va_S A s.heap H locs → lv_has ls 7 [(0, .ref c0), (1, .int x1), (2, .int y2), (3, .int y3), (4, .int x4), (5, .int y5)] → k_16 y2 y3 y5 = some v → W p l e ({ frames := 8, cells := 0, slots := 0, locals := 143 } : Room) s m args below meth c H locs 0 0 (wQi G A below args s (w_C G c0 l0 l1 l2 l3 m0 m1 m2 m3 m4 m5 r0 r1 r2 r3 g0 g_e l_a l_b l_c l_n m_x m_y m_d m_t m_v m_n r_s r_n r_w r_k) 0 0 v) (F0 m 16 ls [])) → va_P G.1 vwCl (w_C G c0 l0 l1 l2 l3 m0 m1 m2 m3 m4 m5 r0 r1 r2 r3 g0 g_e l_a l_b l_c l_n m_x m_y m_d m_t m_v m_n r_s r_n r_w r_k) H → va_D A (w_C G c0 l0 l1 l2 l3 m0 m1 m2 m3 m4 m5 r0 r1 r2 r3 g0 g_e l_a l_b l_c l_n m_x m_y m_d m_t m_v m_n r_s r_n r_w r_k) → va_S A s.heap H locs → lv_has ls 7 [(0, .ref c0), (1, .int x1), (3, .int x3), (4, .int x4), (5, .int x5), (6, .int x6)] → fL_mirrors_b43 N l_a l_b l_c l_n x4 x6 x3 x5 s0 s1 k_16 = some v → W p l e ({ frames := 8, cells := 0, slots := 0, locals := 143 } : Room) s m args below meth c H locs 0 0 (wQi G A below args s (w_C G c0 l0 l1 l2 l3 m0 m1 m2 m3 m4 m5 r0 r1 r2 r3 g0 g_e l_a l_b l_c l_n m_x m_y m_d m_t m_v m_n r_s r_n r_w r_k) 0 0 v) (F0 m 43 ls [.int s1, .int s0]) := by
    intro k_16 x1 x3 x4 x5 x6 s0 s1 H locs ls hk_16 hP hD hS hl h
    rw [fL_mirrors_b43.eq_1] at h
    refine lv_iand hx hb dL_mirrors_43 ?_
    refine lv_istore_n (lv' := [(2, .int (s0 &&& s1)), (0, .ref c0), (1, .int x1), (3, .int x3), (4, .int x4), (5, .int x5), (6, .int x6)]) hx hb dL_mirrors_44 rfl hl (by decide) rfl (fun ls hl => ?_)
    refine lv_iload_n hx hb dL_mirrors_45 rfl (lv_at hl 3 rfl) ?_
    refine lv_iload hx hb dL_mirrors_46 (lv_at hl 6 rfl) ?_
    refine lv_if_lt (tgt := 64) hx hb dL_mirrors_48 (by decide) (fun c_1004 => ?_) (fun c_1004 => ?_)
    · have h := ip c_1004 h
      refine lv_iconst (v := 1) hx hb dL_mirrors_64 (by decide) ?_
      refine lv_goto (tgt := 69) hx hb dL_mirrors_65 (by decide) ?_
      refine w_69 _ _ _ _ _ _  _ _ _ _ _ (fun x3_1005 x5_1006 H locs ls hP hD hS hl h => ?_) hP hD hS (lv_sub hl [1, 2, 0, 4, 5, 6] rfl) h
      exact hk_16 _ _ _ _ _ _ hP hD hS (lv_sub hl [0, 1, 2, 3, 4, 5] rfl) h
    · have h := iq c_1004 h
      refine lv_aload_n hx hb dL_mirrors_51 rfl (lv_at hl 1 rfl) ?_
      refine lv_iload hx hb dL_mirrors_52 (lv_at hl 6 rfl) ?_
      refine lv_iload hx hb dL_mirrors_54 (lv_at hl 5 rfl) ?_
      obtain ⟨u_1007, hc_1008, h⟩ := bdn_n h
      refine wafter_i (wr := []) (w2 := (w_C G c0 l0 l1 l2 l3 m0 m1 m2 m3 m4 m5 r0 r1 r2 r3 g0 g_e l_a l_b l_c l_n m_x m_y m_d m_t m_v m_n r_s r_n r_w r_k)) (va_runV (As := [.int x6, .int x5]) (rest := [.int x3]) ⟨hx, hb, hml, hown, hts⟩ (nX4_reflected (l := l) (G := G) c0 l0 l1 l2 l3 m0 m1 m2 m3 m4 m5 r0 r1 r2 r3 g0 g_e l_a l_b l_c l_n m_x m_y m_d m_t m_v m_n r_s r_n r_w r_k x6 x5 N u_1007 hc_1008 _) (cwV 2 hts gL_mirrors_X4_reflected rfl rfl rfl (by decide +kernel) ⟨Nat.le_of_ble_eq_true rfl, Nat.le_of_ble_eq_true rfl⟩) (wPreV hP hD hK [0, 1, 2, 3, 4, 5, 6, 7, 8, 9, 10, 11, 12, 13, 14, 15] rfl rfl (ci := 4) (qb := 0) rfl rfl rfl) rfl rfl hl.1 rfl (lv_room (Nat.le_of_ble_eq_true rfl)) dL_mirrors_56 ⟨Nat.zero_le _, Nat.zero_le _⟩) hP hD hS hA [0, 1, 2, 3, 4, 5, 6, 7, 8, 9, 10, 11, 12, 13, 14, 15] [] [0, 1, 2, 3, 4, 5, 6, 7, 8, 9, 10, 11, 12, 13, 14, 15] rfl rfl rfl (by decide) rfl rfl (fun H locs hP hD hS => ?_)
      refine lv_iload hx hb dL_mirrors_59 (lv_at hl 4 rfl) ?_
      refine lv_icmp_ne (tgt := 68) hx hb dL_mirrors_61 (by decide) (fun c_1009 => ?_) (fun c_1009 => ?_)
      · have h := iq c_1009 h
        refine lv_iconst (v := 0) hx hb dL_mirrors_68 (by decide) ?_
        refine w_69 _ _ _ _ _ _  _ _ _ _ _ (fun x3_1010 x5_1011 H locs ls hP hD hS hl h => ?_) hP hD hS (lv_sub hl [1, 2, 0, 4, 5, 6] rfl) h
        exact hk_16 _ _ _ _ _ _ hP hD hS (lv_sub hl [0, 1, 2, 3, 4, 5] rfl) h
      · have h := ip c_1009 h
        refine lv_iconst (v := 1) hx hb dL_mirrors_64 (by decide) ?_
        refine lv_goto (tgt := 69) hx hb dL_mirrors_65 (by decide) ?_
        refine w_69 _ _ _ _ _ _  _ _ _ _ _ (fun x3_1012 x5_1013 H locs ls hP hD hS hl h => ?_) hP hD hS (lv_sub hl [1, 2, 0, 4, 5, 6] rfl) h
        exact hk_16 _ _ _ _ _ _ hP hD hS (lv_sub hl [0, 1, 2, 3, 4, 5] rfl) h
  have w_16 : ∀ (k_99 : Int32 → Int32 → Option (Int32)) (x1 : Int32) (x4 : Int32)  (_z : Unit), (∀ (y2 : Int32) (y3 : Int32) (H : Heap) (locs : List Loc) (ls : Array Slot), va_P G.1 vwCl (w_C G c0 l0 l1 l2 l3 m0 m1 m2 m3 m4 m5 r0 r1 r2 r3 g0 g_e l_a l_b l_c l_n m_x m_y m_d m_t m_v m_n r_s r_n r_w r_k) H → va_D A (w_C G c0 l0 l1 l2 l3 m0 m1 m2 m3 m4 m5 r0 r1 r2 r3 g0 g_e l_a l_b l_c l_n m_x m_y m_d m_t m_v m_n r_s r_n r_w r_k) → va_S A s.heap H locs → lv_has ls 7 [(0, .ref c0), (1, .int x1), (2, .int y2), (3, .int y3), (4, .int x4)] → k_99 y2 y3 = some v → W p l e ({ frames := 8, cells := 0, slots := 0, locals := 143 } : Room) s m args below meth c H locs 0 0 (wQi G A below args s (w_C G c0 l0 l1 l2 l3 m0 m1 m2 m3 m4 m5 r0 r1 r2 r3 g0 g_e l_a l_b l_c l_n m_x m_y m_d m_t m_v m_n r_s r_n r_w r_k) 0 0 v) (F0 m 99 ls [])) → ∀ (n : Nat) (x2 : Int32) (x3 : Int32) (x5 : Int32)  (H : Heap) (locs : List Loc) (ls : Array Slot), va_P G.1 vwCl (w_C G c0 l0 l1 l2 l3 m0 m1 m2 m3 m4 m5 r0 r1 r2 r3 g0 g_e l_a l_b l_c l_n m_x m_y m_d m_t m_v m_n r_s r_n r_w r_k) H → va_D A (w_C G c0 l0 l1 l2 l3 m0 m1 m2 m3 m4 m5 r0 r1 r2 r3 g0 g_e l_a l_b l_c l_n m_x m_y m_d m_t m_v m_n r_s r_n r_w r_k) → va_S A s.heap H locs → lv_has ls 7 [(0, .ref c0), (1, .int x1), (2, .int x2), (3, .int x3), (4, .int x4), (5, .int x5)] → fL_mirrors_b16 N l_a l_b l_c l_n x1 x4 k_99 n x2 x3 x5 = some v → W p l e ({ frames := 8, cells := 0, slots := 0, locals := 143 } : Room) s m args below meth c H locs 0 0 (wQi G A below args s (w_C G c0 l0 l1 l2 l3 m0 m1 m2 m3 m4 m5 r0 r1 r2 r3 g0 g_e l_a l_b l_c l_n m_x m_y m_d m_t m_v m_n r_s r_n r_w r_k) 0 0 v) (F0 m 16 ls []) := by
    intro k_99 x1 x4 _z hk_99 n
    induction n with
    | zero =>
      intro x2 x3 x5 H locs ls hP hD hS hl h
      rw [fL_mirrors_b16.eq_1] at h
      cases h
    | succ n ih =>
      intro x2 x3 x5 H locs ls hP hD hS hl h
      rw [fL_mirrors_b16.eq_2] at h
      refine lv_iload hx hb dL_mirrors_16 (lv_at hl 5 rfl) ?_
      refine lv_iload_n hx hb dL_mirrors_18 rfl (lv_at hl 1 rfl) ?_
      refine lv_icmp_ge (tgt := 99) hx hb dL_mirrors_19 (by decide) (fun c_1014 => ?_) (fun c_1014 => ?_)
      · have h := ip c_1014 h
        exact hk_99 _ _ _ _ _ hP hD hS (lv_sub hl [0, 1, 2, 3, 4] rfl) h
      · have h := iq c_1014 h
        refine lv_aload_n hx hb dL_mirrors_22 rfl (lv_at hl 0 rfl) ?_
        refine lv_iload hx hb dL_mirrors_23 (lv_at hl 4 rfl) ?_
        refine lv_iload hx hb dL_mirrors_25 (lv_at hl 5 rfl) ?_
        obtain ⟨u_1015, hc_1016, h⟩ := bdn_n h
        refine wafter_i (wr := []) (w2 := (w_C G c0 l0 l1 l2 l3 m0 m1 m2 m3 m4 m5 r0 r1 r2 r3 g0 g_e l_a l_b l_c l_n m_x m_y m_d m_t m_v m_n r_s r_n r_w r_k)) (va_runV (As := [.int x4, .int x5]) (rest := []) ⟨hx, hb, hml, hown, hts⟩ (nX4_reflected (l := l) (G := G) c0 l0 l1 l2 l3 m0 m1 m2 m3 m4 m5 r0 r1 r2 r3 g0 g_e l_a l_b l_c l_n m_x m_y m_d m_t m_v m_n r_s r_n r_w r_k x4 x5 N u_1015 hc_1016 _) (cwV 2 hts gL_mirrors_X4_reflected rfl rfl rfl (by decide +kernel) ⟨Nat.le_of_ble_eq_true rfl, Nat.le_of_ble_eq_true rfl⟩) (wPreV hP hD hK [0, 1, 2, 3, 4, 5, 6, 7, 8, 9, 10, 11, 12, 13, 14, 15] rfl rfl (ci := 4) (qb := 0) rfl rfl rfl) rfl rfl hl.1 rfl (lv_room (Nat.le_of_ble_eq_true rfl)) dL_mirrors_27 ⟨Nat.zero_le _, Nat.zero_le _⟩) hP hD hS hA [0, 1, 2, 3, 4, 5, 6, 7, 8, 9, 10, 11, 12, 13, 14, 15] [] [0, 1, 2, 3, 4, 5, 6, 7, 8, 9, 10, 11, 12, 13, 14, 15] rfl rfl rfl (by decide) rfl rfl (fun H locs hP hD hS => ?_)
        refine lv_istore (lv' := [(6, .int u_1015), (0, .ref c0), (1, .int x1), (2, .int x2), (3, .int x3), (4, .int x4), (5, .int x5)]) hx hb dL_mirrors_30 hl (by decide) rfl (fun ls hl => ?_)
        refine lv_iload_n hx hb dL_mirrors_32 rfl (lv_at hl 3 rfl) ?_
        refine lv_iload hx hb dL_mirrors_33 (lv_at hl 0 rfl) ?_
        refine lv_if_lt (tgt := 42) hx hb dL_mirrors_35 (by decide) (fun c_1017 => ?_) (fun c_1017 => ?_)
        · have h := ip c_1017 h
          refine lv_iconst (v := 0) hx hb dL_mirrors_42 (by decide) ?_
          refine w_43 _ _ _ _ _ _  _ _ _ _ _ (fun x2_1018 x3_1019 x5_1020 H locs ls hP hD hS hl h => ?_) hP hD hS (lv_sub hl [1, 2, 4, 5, 6, 0] rfl) h
          exact ih _ _ _ _ _ _ hP hD hS (lv_sub hl [0, 1, 2, 3, 4, 5] rfl) h
        · have h := iq c_1017 h
          refine lv_iconst (v := 1) hx hb dL_mirrors_38 (by decide) ?_
          refine lv_goto (tgt := 43) hx hb dL_mirrors_39 (by decide) ?_
          refine w_43 _ _ _ _ _ _  _ _ _ _ _ (fun x2_1021 x3_1022 x5_1023 H locs ls hP hD hS hl h => ?_) hP hD hS (lv_sub hl [1, 2, 4, 5, 6, 0] rfl) h
          exact ih _ _ _ _ _ _ hP hD hS (lv_sub hl [0, 1, 2, 3, 4, 5] rfl) h
  have w_7 : ∀ (k_105 : Int32 → Int32 → Option (Int32)) (x1 : Int32)  (_z : Unit), (∀ (y2 : Int32) (y3 : Int32) (H : Heap) (locs : List Loc) (ls : Array Slot), va_P G.1 vwCl (w_C G c0 l0 l1 l2 l3 m0 m1 m2 m3 m4 m5 r0 r1 r2 r3 g0 g_e l_a l_b l_c l_n m_x m_y m_d m_t m_v m_n r_s r_n r_w r_k) H → va_D A (w_C G c0 l0 l1 l2 l3 m0 m1 m2 m3 m4 m5 r0 r1 r2 r3 g0 g_e l_a l_b l_c l_n m_x m_y m_d m_t m_v m_n r_s r_n r_w r_k) → va_S A s.heap H locs → lv_has ls 7 [(0, .ref c0), (2, .int y2), (3, .int y3)] → k_105 y2 y3 = some v → W p l e ({ frames := 8, cells := 0, slots := 0, locals := 143 } : Room) s m args below meth c H locs 0 0 (wQi G A below args s (w_C G c0 l0 l1 l2 l3 m0 m1 m2 m3 m4 m5 r0 r1 r2 r3 g0 g_e l_a l_b l_c l_n m_x m_y m_d m_t m_v m_n r_s r_n r_w r_k) 0 0 v) (F0 m 105 ls [])) → ∀ (n : Nat) (x2 : Int32) (x3 : Int32) (x4 : Int32)  (H : Heap) (locs : List Loc) (ls : Array Slot), va_P G.1 vwCl (w_C G c0 l0 l1 l2 l3 m0 m1 m2 m3 m4 m5 r0 r1 r2 r3 g0 g_e l_a l_b l_c l_n m_x m_y m_d m_t m_v m_n r_s r_n r_w r_k) H → va_D A (w_C G c0 l0 l1 l2 l3 m0 m1 m2 m3 m4 m5 r0 r1 r2 r3 g0 g_e l_a l_b l_c l_n m_x m_y m_d m_t m_v m_n r_s r_n r_w r_k) → va_S A s.heap H locs → lv_has ls 7 [(0, .ref c0), (1, .int x1), (2, .int x2), (3, .int x3), (4, .int x4)] → fL_mirrors_b7 N l_a l_b l_c l_n x1 k_105 n x2 x3 x4 = some v → W p l e ({ frames := 8, cells := 0, slots := 0, locals := 143 } : Room) s m args below meth c H locs 0 0 (wQi G A below args s (w_C G c0 l0 l1 l2 l3 m0 m1 m2 m3 m4 m5 r0 r1 r2 r3 g0 g_e l_a l_b l_c l_n m_x m_y m_d m_t m_v m_n r_s r_n r_w r_k) 0 0 v) (F0 m 7 ls []) := by
    intro k_105 x1 _z hk_105 n
    induction n with
    | zero =>
      intro x2 x3 x4 H locs ls hP hD hS hl h
      rw [fL_mirrors_b7.eq_1] at h
      cases h
    | succ n ih =>
      intro x2 x3 x4 H locs ls hP hD hS hl h
      rw [fL_mirrors_b7.eq_2] at h
      refine lv_iload hx hb dL_mirrors_7 (lv_at hl 4 rfl) ?_
      refine lv_iload_n hx hb dL_mirrors_9 rfl (lv_at hl 1 rfl) ?_
      refine lv_icmp_ge (tgt := 105) hx hb dL_mirrors_10 (by decide) (fun c_1024 => ?_) (fun c_1024 => ?_)
      · have h := ip c_1024 h
        exact hk_105 _ _ _ _ _ hP hD hS (lv_sub hl [0, 2, 3] rfl) h
      · have h := iq c_1024 h
        refine lv_iconst (v := 0) hx hb dL_mirrors_13 (by decide) ?_
        refine lv_istore (lv' := [(5, .int 0), (0, .ref c0), (1, .int x1), (2, .int x2), (3, .int x3), (4, .int x4)]) hx hb dL_mirrors_14 hl (by decide) rfl (fun ls hl => ?_)
        refine w_16 _ _ _  () (fun x2_1025 x3_1026 H locs ls hP hD hS hl h => ?_) N _ _ _  _ _ _ hP hD hS (lv_sub hl [1, 2, 3, 4, 5, 0] rfl) h
        refine lv_iinc (v := (x4 + 1)) (lv' := [(4, .int (x4 + 1)), (0, .ref c0), (1, .int x1), (2, .int x2_1025), (3, .int x3_1026)]) hx hb dL_mirrors_99 hl (k := 4) rfl rfl (by decide) rfl (fun ls hl => ?_)
        refine lv_goto (tgt := 7) hx hb dL_mirrors_102 (by decide) ?_
        exact ih _ _ _ _ _ _ hP hD hS (lv_sub hl [1, 2, 3, 4, 0] rfl) h
  rw [fL_mirrors.eq_1] at h
  refine lv_iconst (v := 1) hx hb dL_mirrors_0 (by decide) ?_
  refine lv_istore_n (lv' := [(2, .int 1), (0, .ref c0), (1, .int x1)]) hx hb dL_mirrors_1 rfl hl (by decide) rfl (fun ls hl => ?_)
  refine lv_iconst (v := 1) hx hb dL_mirrors_2 (by decide) ?_
  refine lv_istore_n (lv' := [(3, .int 1), (2, .int 1), (0, .ref c0), (1, .int x1)]) hx hb dL_mirrors_3 rfl hl (by decide) rfl (fun ls hl => ?_)
  refine lv_iconst (v := 0) hx hb dL_mirrors_4 (by decide) ?_
  refine lv_istore (lv' := [(4, .int 0), (3, .int 1), (2, .int 1), (0, .ref c0), (1, .int x1)]) hx hb dL_mirrors_5 hl (by decide) rfl (fun ls hl => ?_)
  refine w_7 _ _  () (fun x2_1027 x3_1028 H locs ls hP hD hS hl h => ?_) N _ _ _  _ _ _ hP hD hS (lv_sub hl [3, 4, 2, 1, 0] rfl) h
  refine lv_iload_n hx hb dL_mirrors_105 rfl (lv_at hl 2 rfl) ?_
  refine lv_if_eq (tgt := 121) hx hb dL_mirrors_106 (by decide) (fun c_1029 => ?_) (fun c_1029 => ?_)
  · have h := ip c_1029 h
    refine lv_iconst (v := 0) hx hb dL_mirrors_121 (by decide) ?_
    obtain ⟨hz, h⟩ := zo_inv h
    obtain rfl := Option.some.inj h
    exact wrz hx hb hr hlocks hP hD hS (Nat.le_of_ble_eq_true rfl) (Nat.le_of_ble_eq_true rfl) hz rfl dL_mirrors_122
  · have h := iq c_1029 h
    refine lv_aload_n hx hb dL_mirrors_109 rfl (lv_at hl 0 rfl) ?_
    obtain ⟨u_1030, hc_1031, h⟩ := bd_inv h
    refine wafter_i (wr := []) (w2 := (w_C G c0 l0 l1 l2 l3 m0 m1 m2 m3 m4 m5 r0 r1 r2 r3 g0 g_e l_a l_b l_c l_n m_x m_y m_d m_t m_v m_n r_s r_n r_w r_k)) (va_runV (As := []) (rest := []) ⟨hx, hb, hml, hown, hts⟩ (kX4_isKaleidoscope (l := l) (G := G) c0 l0 l1 l2 l3 m0 m1 m2 m3 m4 m5 r0 r1 r2 r3 g0 g_e l_a l_b l_c l_n m_x m_y m_d m_t m_v m_n r_s r_n r_w r_k  N u_1030 hc_1031 _) (cwV 0 hts gL_mirrors_X4_isKaleidoscope rfl rfl rfl (by decide +kernel) ⟨Nat.le_of_ble_eq_true rfl, Nat.le_of_ble_eq_true rfl⟩) (wPreV hP hD hK [0, 1, 2, 3, 4, 5, 6, 7, 8, 9, 10, 11, 12, 13, 14, 15] rfl rfl (ci := 4) (qb := 0) rfl rfl rfl) rfl rfl hl.1 rfl (lv_room (Nat.le_of_ble_eq_true rfl)) dL_mirrors_110 ⟨Nat.zero_le _, Nat.zero_le _⟩) hP hD hS hA [0, 1, 2, 3, 4, 5, 6, 7, 8, 9, 10, 11, 12, 13, 14, 15] [] [0, 1, 2, 3, 4, 5, 6, 7, 8, 9, 10, 11, 12, 13, 14, 15] rfl rfl rfl (by decide) rfl rfl (fun H locs hP hD hS => ?_)
    refine lv_iload_n hx hb dL_mirrors_113 rfl (lv_at hl 1 rfl) ?_
    refine lv_icmp_ne (tgt := 121) hx hb dL_mirrors_114 (by decide) (fun c_1032 => ?_) (fun c_1032 => ?_)
    · have h := iq c_1032 h
      refine lv_iconst (v := 0) hx hb dL_mirrors_121 (by decide) ?_
      obtain ⟨hz, h⟩ := zo_inv h
      obtain rfl := Option.some.inj h
      exact wrz hx hb hr hlocks hP hD hS (Nat.le_of_ble_eq_true rfl) (Nat.le_of_ble_eq_true rfl) hz rfl dL_mirrors_122
    · have h := ip c_1032 h
      refine lv_iconst (v := 1) hx hb dL_mirrors_117 (by decide) ?_
      refine lv_goto (tgt := 122) hx hb dL_mirrors_118 (by decide) ?_
      obtain ⟨hz, h⟩ := zo_inv h
      obtain rfl := Option.some.inj h
      exact wrz hx hb hr hlocks hP hD hS (Nat.le_of_ble_eq_true rfl) (Nat.le_of_ble_eq_true rfl) hz rfl dL_mirrors_122
def fL_graph_b27 (N : Nat) (g_e : Int64) : Nat → Int32 → Int32 → Option (Int32)
  | 0, _, _ => none
  | n + 1, x1, x2 => if 4 ≤ x2 then zo x1 (some x1) else bdn (fX4_colourings N g_e x2) (fun u_1034 => bdn (fX4_colouringsAnew N g_e x2) (fun u_1036 => if u_1034 = u_1036 then bdn (fX4_colourings N g_e x2) (fun u_1039 => bdn (fX4_colourings N g_e (x2 - 1)) (fun u_1041 => if u_1039 < u_1041 then fL_graph_b27 N g_e n (x1 &&& 0) (x2 + 1) else fL_graph_b27 N g_e n (x1 &&& 1) (x2 + 1))) else fL_graph_b27 N g_e n (x1 &&& 0) (x2 + 1)))
def fL_graph (N : Nat) (g_e : Int64) : Option (Int32) := bd (fX4_directions N g_e) (fun u_1044 => bd (fX4_directionsAnew N g_e) (fun u_1046 => if u_1044 = u_1046 then bdn (fX4_colourings N g_e 0) (fun u_1049 => if u_1049 = 0 then fL_graph_b27 N g_e N 1 1 else fL_graph_b27 N g_e N 0 1) else fL_graph_b27 N g_e N 0 1))
set_option maxHeartbeats 4000000 in
set_option maxRecDepth 100000 in
theorem kL_graph {l : Launch} {G : wG} (c0 l0 l1 l2 l3 m0 m1 m2 m3 m4 m5 r0 r1 r2 r3 g0 : Nat) (g_e : Int64) (l_a : Nat → Int32) (l_b : Nat → Int32) (l_c : Nat → Int32) (l_n : Int32) (m_x : Nat → Int32) (m_y : Nat → Int32) (m_d : Nat → Int32) (m_t : Nat → Int32) (m_v : Nat → Int32) (m_n : Int32) (r_s : Nat → Int32) (r_n : Nat → Int32) (r_w : Nat → Int32) (r_k : Int32) (N : Nat) (v : Int32) (h : fL_graph N g_e = some v) : wCi l G yL_graph wsL_graph ({ frames := 22, cells := 0, slots := 0, locals := 601 } : Room) [.ref c0] (w_C G c0 l0 l1 l2 l3 m0 m1 m2 m3 m4 m5 r0 r1 r2 r3 g0 g_e l_a l_b l_c l_n m_x m_y m_d m_t m_v m_n r_s r_n r_w r_k) (w_C G c0 l0 l1 l2 l3 m0 m1 m2 m3 m4 m5 r0 r1 r2 r3 g0 g_e l_a l_b l_c l_n m_x m_y m_d m_t m_v m_n r_s r_n r_w r_k) 0 0 v := by
  refine wCi.mk (cc := cL_graph) (maxL := 3) (ty := .boolean) (by decide) rfl (Nat.le_of_ble_eq_true rfl) ?_
  intro p e s m below meth c A ls hx hb hml hr hlocks hts hown hK hA hP hD hl
  have hx : p.tables.exec = Jvm.exec := hx
  have hown : s.vm.findClass RL = some m.cls := hown
  have hS : va_S A s.heap s.heap [] := va_S.rf
  have hP : va_P G.1 vwCl (w_C G c0 l0 l1 l2 l3 m0 m1 m2 m3 m4 m5 r0 r1 r2 r3 g0 g_e l_a l_b l_c l_n m_x m_y m_d m_t m_v m_n r_s r_n r_w r_k) s.heap := hP
  have hD : va_D A (w_C G c0 l0 l1 l2 l3 m0 m1 m2 m3 m4 m5 r0 r1 r2 r3 g0 g_e l_a l_b l_c l_n m_x m_y m_d m_t m_v m_n r_s r_n r_w r_k) := hD
  have hl : lv_has ls 3 [(0, .ref c0)] := hl
  obtain ⟨args, hargs⟩ : ∃ z : Array Value, z = ([.ref c0] : List Value).toArray := ⟨_, rfl⟩
  rw [← hargs]
  rw [← hargs] at hts
  have w_27 : ∀   (_z : Unit), ∀ (n : Nat) (x1 : Int32) (x2 : Int32)  (H : Heap) (locs : List Loc) (ls : Array Slot), va_P G.1 vwCl (w_C G c0 l0 l1 l2 l3 m0 m1 m2 m3 m4 m5 r0 r1 r2 r3 g0 g_e l_a l_b l_c l_n m_x m_y m_d m_t m_v m_n r_s r_n r_w r_k) H → va_D A (w_C G c0 l0 l1 l2 l3 m0 m1 m2 m3 m4 m5 r0 r1 r2 r3 g0 g_e l_a l_b l_c l_n m_x m_y m_d m_t m_v m_n r_s r_n r_w r_k) → va_S A s.heap H locs → lv_has ls 3 [(0, .ref c0), (1, .int x1), (2, .int x2)] → fL_graph_b27 N g_e n x1 x2 = some v → W p l e ({ frames := 22, cells := 0, slots := 0, locals := 601 } : Room) s m args below meth c H locs 0 0 (wQi G A below args s (w_C G c0 l0 l1 l2 l3 m0 m1 m2 m3 m4 m5 r0 r1 r2 r3 g0 g_e l_a l_b l_c l_n m_x m_y m_d m_t m_v m_n r_s r_n r_w r_k) 0 0 v) (F0 m 27 ls []) := by
    intro _z n
    induction n with
    | zero =>
      intro x1 x2 H locs ls hP hD hS hl h
      rw [fL_graph_b27.eq_1] at h
      cases h
    | succ n ih =>
      intro x1 x2 H locs ls hP hD hS hl h
      rw [fL_graph_b27.eq_2] at h
      refine lv_iload_n hx hb dL_graph_27 rfl (lv_at hl 2 rfl) ?_
      refine lv_iconst (v := 4) hx hb dL_graph_28 (by decide) ?_
      refine lv_icmp_ge (tgt := 74) hx hb dL_graph_29 (by decide) (fun c_1033 => ?_) (fun c_1033 => ?_)
      · have h := ip c_1033 h
        refine lv_iload_n hx hb dL_graph_74 rfl (lv_at hl 1 rfl) ?_
        obtain ⟨hz, h⟩ := zo_inv h
        obtain rfl := Option.some.inj h
        exact wrz hx hb hr hlocks hP hD hS (Nat.le_of_ble_eq_true rfl) (Nat.le_of_ble_eq_true rfl) hz rfl dL_graph_75
      · have h := iq c_1033 h
        refine lv_iload_n hx hb dL_graph_32 rfl (lv_at hl 1 rfl) ?_
        refine lv_aload_n hx hb dL_graph_33 rfl (lv_at hl 0 rfl) ?_
        refine lv_iload_n hx hb dL_graph_34 rfl (lv_at hl 2 rfl) ?_
        obtain ⟨u_1034, hc_1035, h⟩ := bdn_n h
        refine wafter_i (wr := []) (w2 := (w_C G c0 l0 l1 l2 l3 m0 m1 m2 m3 m4 m5 r0 r1 r2 r3 g0 g_e l_a l_b l_c l_n m_x m_y m_d m_t m_v m_n r_s r_n r_w r_k)) (va_runV (As := [.int x2]) (rest := [.int x1]) ⟨hx, hb, hml, hown, hts⟩ (nX4_colourings (l := l) (G := G) c0 l0 l1 l2 l3 m0 m1 m2 m3 m4 m5 r0 r1 r2 r3 g0 g_e l_a l_b l_c l_n m_x m_y m_d m_t m_v m_n r_s r_n r_w r_k x2 N u_1034 hc_1035 _) (cwV 1 hts gL_graph_X4_colourings rfl rfl rfl (by decide +kernel) ⟨Nat.le_of_ble_eq_true rfl, Nat.le_of_ble_eq_true rfl⟩) (wPreV hP hD hK [0, 1, 2, 3, 4, 5, 6, 7, 8, 9, 10, 11, 12, 13, 14, 15] rfl rfl (ci := 4) (qb := 0) rfl rfl rfl) rfl rfl hl.1 rfl (lv_room (Nat.le_of_ble_eq_true rfl)) dL_graph_35 ⟨Nat.zero_le _, Nat.zero_le _⟩) hP hD hS hA [0, 1, 2, 3, 4, 5, 6, 7, 8, 9, 10, 11, 12, 13, 14, 15] [] [0, 1, 2, 3, 4, 5, 6, 7, 8, 9, 10, 11, 12, 13, 14, 15] rfl rfl rfl (by decide) rfl rfl (fun H locs hP hD hS => ?_)
        refine lv_aload_n hx hb dL_graph_38 rfl (lv_at hl 0 rfl) ?_
        refine lv_iload_n hx hb dL_graph_39 rfl (lv_at hl 2 rfl) ?_
        obtain ⟨u_1036, hc_1037, h⟩ := bdn_n h
        refine wafter_i (wr := []) (w2 := (w_C G c0 l0 l1 l2 l3 m0 m1 m2 m3 m4 m5 r0 r1 r2 r3 g0 g_e l_a l_b l_c l_n m_x m_y m_d m_t m_v m_n r_s r_n r_w r_k)) (va_runV (As := [.int x2]) (rest := [.int u_1034, .int x1]) ⟨hx, hb, hml, hown, hts⟩ (nX4_colouringsAnew (l := l) (G := G) c0 l0 l1 l2 l3 m0 m1 m2 m3 m4 m5 r0 r1 r2 r3 g0 g_e l_a l_b l_c l_n m_x m_y m_d m_t m_v m_n r_s r_n r_w r_k x2 N u_1036 hc_1037 _) (cwV 1 hts gL_graph_X4_colouringsAnew rfl rfl rfl (by decide +kernel) ⟨Nat.le_of_ble_eq_true rfl, Nat.le_of_ble_eq_true rfl⟩) (wPreV hP hD hK [0, 1, 2, 3, 4, 5, 6, 7, 8, 9, 10, 11, 12, 13, 14, 15] rfl rfl (ci := 4) (qb := 0) rfl rfl rfl) rfl rfl hl.1 rfl (lv_room (Nat.le_of_ble_eq_true rfl)) dL_graph_40 ⟨Nat.zero_le _, Nat.zero_le _⟩) hP hD hS hA [0, 1, 2, 3, 4, 5, 6, 7, 8, 9, 10, 11, 12, 13, 14, 15] [] [0, 1, 2, 3, 4, 5, 6, 7, 8, 9, 10, 11, 12, 13, 14, 15] rfl rfl rfl (by decide) rfl rfl (fun H locs hP hD hS => ?_)
        refine lv_icmp_ne (tgt := 65) hx hb dL_graph_43 (by decide) (fun c_1038 => ?_) (fun c_1038 => ?_)
        · have h := iq c_1038 h
          refine lv_iconst (v := 0) hx hb dL_graph_65 (by decide) ?_
          refine lv_iand hx hb dL_graph_66 ?_
          refine lv_istore_n (lv' := [(1, .int (x1 &&& 0)), (0, .ref c0), (2, .int x2)]) hx hb dL_graph_67 rfl hl (by decide) rfl (fun ls hl => ?_)
          refine lv_iinc (v := (x2 + 1)) (lv' := [(2, .int (x2 + 1)), (1, .int (x1 &&& 0)), (0, .ref c0)]) hx hb dL_graph_68 hl (k := 2) rfl rfl (by decide) rfl (fun ls hl => ?_)
          refine lv_goto (tgt := 27) hx hb dL_graph_71 (by decide) ?_
          exact ih _ _ _ _ _ hP hD hS (lv_sub hl [2, 1, 0] rfl) h
        · have h := ip c_1038 h
          refine lv_aload_n hx hb dL_graph_46 rfl (lv_at hl 0 rfl) ?_
          refine lv_iload_n hx hb dL_graph_47 rfl (lv_at hl 2 rfl) ?_
          obtain ⟨u_1039, hc_1040, h⟩ := bdn_n h
          refine wafter_i (wr := []) (w2 := (w_C G c0 l0 l1 l2 l3 m0 m1 m2 m3 m4 m5 r0 r1 r2 r3 g0 g_e l_a l_b l_c l_n m_x m_y m_d m_t m_v m_n r_s r_n r_w r_k)) (va_runV (As := [.int x2]) (rest := [.int x1]) ⟨hx, hb, hml, hown, hts⟩ (nX4_colourings (l := l) (G := G) c0 l0 l1 l2 l3 m0 m1 m2 m3 m4 m5 r0 r1 r2 r3 g0 g_e l_a l_b l_c l_n m_x m_y m_d m_t m_v m_n r_s r_n r_w r_k x2 N u_1039 hc_1040 _) (cwV 1 hts gL_graph_X4_colourings rfl rfl rfl (by decide +kernel) ⟨Nat.le_of_ble_eq_true rfl, Nat.le_of_ble_eq_true rfl⟩) (wPreV hP hD hK [0, 1, 2, 3, 4, 5, 6, 7, 8, 9, 10, 11, 12, 13, 14, 15] rfl rfl (ci := 4) (qb := 0) rfl rfl rfl) rfl rfl hl.1 rfl (lv_room (Nat.le_of_ble_eq_true rfl)) dL_graph_48 ⟨Nat.zero_le _, Nat.zero_le _⟩) hP hD hS hA [0, 1, 2, 3, 4, 5, 6, 7, 8, 9, 10, 11, 12, 13, 14, 15] [] [0, 1, 2, 3, 4, 5, 6, 7, 8, 9, 10, 11, 12, 13, 14, 15] rfl rfl rfl (by decide) rfl rfl (fun H locs hP hD hS => ?_)
          refine lv_aload_n hx hb dL_graph_51 rfl (lv_at hl 0 rfl) ?_
          refine lv_iload_n hx hb dL_graph_52 rfl (lv_at hl 2 rfl) ?_
          refine lv_iconst (v := 1) hx hb dL_graph_53 (by decide) ?_
          refine lv_isub hx hb dL_graph_54 ?_
          obtain ⟨u_1041, hc_1042, h⟩ := bdn_n h
          refine wafter_i (wr := []) (w2 := (w_C G c0 l0 l1 l2 l3 m0 m1 m2 m3 m4 m5 r0 r1 r2 r3 g0 g_e l_a l_b l_c l_n m_x m_y m_d m_t m_v m_n r_s r_n r_w r_k)) (va_runV (As := [.int (x2 - 1)]) (rest := [.int u_1039, .int x1]) ⟨hx, hb, hml, hown, hts⟩ (nX4_colourings (l := l) (G := G) c0 l0 l1 l2 l3 m0 m1 m2 m3 m4 m5 r0 r1 r2 r3 g0 g_e l_a l_b l_c l_n m_x m_y m_d m_t m_v m_n r_s r_n r_w r_k (x2 - 1) N u_1041 hc_1042 _) (cwV 1 hts gL_graph_X4_colourings rfl rfl rfl (by decide +kernel) ⟨Nat.le_of_ble_eq_true rfl, Nat.le_of_ble_eq_true rfl⟩) (wPreV hP hD hK [0, 1, 2, 3, 4, 5, 6, 7, 8, 9, 10, 11, 12, 13, 14, 15] rfl rfl (ci := 4) (qb := 0) rfl rfl rfl) rfl rfl hl.1 rfl (lv_room (Nat.le_of_ble_eq_true rfl)) dL_graph_55 ⟨Nat.zero_le _, Nat.zero_le _⟩) hP hD hS hA [0, 1, 2, 3, 4, 5, 6, 7, 8, 9, 10, 11, 12, 13, 14, 15] [] [0, 1, 2, 3, 4, 5, 6, 7, 8, 9, 10, 11, 12, 13, 14, 15] rfl rfl rfl (by decide) rfl rfl (fun H locs hP hD hS => ?_)
          refine lv_icmp_lt (tgt := 65) hx hb dL_graph_58 (by decide) (fun c_1043 => ?_) (fun c_1043 => ?_)
          · have h := ip c_1043 h
            refine lv_iconst (v := 0) hx hb dL_graph_65 (by decide) ?_
            refine lv_iand hx hb dL_graph_66 ?_
            refine lv_istore_n (lv' := [(1, .int (x1 &&& 0)), (0, .ref c0), (2, .int x2)]) hx hb dL_graph_67 rfl hl (by decide) rfl (fun ls hl => ?_)
            refine lv_iinc (v := (x2 + 1)) (lv' := [(2, .int (x2 + 1)), (1, .int (x1 &&& 0)), (0, .ref c0)]) hx hb dL_graph_68 hl (k := 2) rfl rfl (by decide) rfl (fun ls hl => ?_)
            refine lv_goto (tgt := 27) hx hb dL_graph_71 (by decide) ?_
            exact ih _ _ _ _ _ hP hD hS (lv_sub hl [2, 1, 0] rfl) h
          · have h := iq c_1043 h
            refine lv_iconst (v := 1) hx hb dL_graph_61 (by decide) ?_
            refine lv_goto (tgt := 66) hx hb dL_graph_62 (by decide) ?_
            refine lv_iand hx hb dL_graph_66 ?_
            refine lv_istore_n (lv' := [(1, .int (x1 &&& 1)), (0, .ref c0), (2, .int x2)]) hx hb dL_graph_67 rfl hl (by decide) rfl (fun ls hl => ?_)
            refine lv_iinc (v := (x2 + 1)) (lv' := [(2, .int (x2 + 1)), (1, .int (x1 &&& 1)), (0, .ref c0)]) hx hb dL_graph_68 hl (k := 2) rfl rfl (by decide) rfl (fun ls hl => ?_)
            refine lv_goto (tgt := 27) hx hb dL_graph_71 (by decide) ?_
            exact ih _ _ _ _ _ hP hD hS (lv_sub hl [2, 1, 0] rfl) h
  rw [fL_graph.eq_1] at h
  refine lv_aload_n hx hb dL_graph_0 rfl (lv_at hl 0 rfl) ?_
  obtain ⟨u_1044, hc_1045, h⟩ := bd_inv h
  refine wafter_i (wr := []) (w2 := (w_C G c0 l0 l1 l2 l3 m0 m1 m2 m3 m4 m5 r0 r1 r2 r3 g0 g_e l_a l_b l_c l_n m_x m_y m_d m_t m_v m_n r_s r_n r_w r_k)) (va_runV (As := []) (rest := []) ⟨hx, hb, hml, hown, hts⟩ (kX4_directions (l := l) (G := G) c0 l0 l1 l2 l3 m0 m1 m2 m3 m4 m5 r0 r1 r2 r3 g0 g_e l_a l_b l_c l_n m_x m_y m_d m_t m_v m_n r_s r_n r_w r_k  N u_1044 hc_1045 _) (cwV 0 hts gL_graph_X4_directions rfl rfl rfl (by decide +kernel) ⟨Nat.le_of_ble_eq_true rfl, Nat.le_of_ble_eq_true rfl⟩) (wPreV hP hD hK [0, 1, 2, 3, 4, 5, 6, 7, 8, 9, 10, 11, 12, 13, 14, 15] rfl rfl (ci := 4) (qb := 0) rfl rfl rfl) rfl rfl hl.1 rfl (lv_room (Nat.le_of_ble_eq_true rfl)) dL_graph_1 ⟨Nat.zero_le _, Nat.zero_le _⟩) hP hD hS hA [0, 1, 2, 3, 4, 5, 6, 7, 8, 9, 10, 11, 12, 13, 14, 15] [] [0, 1, 2, 3, 4, 5, 6, 7, 8, 9, 10, 11, 12, 13, 14, 15] rfl rfl rfl (by decide) rfl rfl (fun H locs hP hD hS => ?_)
  refine lv_aload_n hx hb dL_graph_4 rfl (lv_at hl 0 rfl) ?_
  obtain ⟨u_1046, hc_1047, h⟩ := bd_inv h
  refine wafter_i (wr := []) (w2 := (w_C G c0 l0 l1 l2 l3 m0 m1 m2 m3 m4 m5 r0 r1 r2 r3 g0 g_e l_a l_b l_c l_n m_x m_y m_d m_t m_v m_n r_s r_n r_w r_k)) (va_runV (As := []) (rest := [.int u_1044]) ⟨hx, hb, hml, hown, hts⟩ (kX4_directionsAnew (l := l) (G := G) c0 l0 l1 l2 l3 m0 m1 m2 m3 m4 m5 r0 r1 r2 r3 g0 g_e l_a l_b l_c l_n m_x m_y m_d m_t m_v m_n r_s r_n r_w r_k  N u_1046 hc_1047 _) (cwV 0 hts gL_graph_X4_directionsAnew rfl rfl rfl (by decide +kernel) ⟨Nat.le_of_ble_eq_true rfl, Nat.le_of_ble_eq_true rfl⟩) (wPreV hP hD hK [0, 1, 2, 3, 4, 5, 6, 7, 8, 9, 10, 11, 12, 13, 14, 15] rfl rfl (ci := 4) (qb := 0) rfl rfl rfl) rfl rfl hl.1 rfl (lv_room (Nat.le_of_ble_eq_true rfl)) dL_graph_5 ⟨Nat.zero_le _, Nat.zero_le _⟩) hP hD hS hA [0, 1, 2, 3, 4, 5, 6, 7, 8, 9, 10, 11, 12, 13, 14, 15] [] [0, 1, 2, 3, 4, 5, 6, 7, 8, 9, 10, 11, 12, 13, 14, 15] rfl rfl rfl (by decide) rfl rfl (fun H locs hP hD hS => ?_)
  refine lv_icmp_ne (tgt := 23) hx hb dL_graph_8 (by decide) (fun c_1048 => ?_) (fun c_1048 => ?_)
  · have h := iq c_1048 h
    refine lv_iconst (v := 0) hx hb dL_graph_23 (by decide) ?_
    refine lv_istore_n (lv' := [(1, .int 0), (0, .ref c0)]) hx hb dL_graph_24 rfl hl (by decide) rfl (fun ls hl => ?_)
    refine lv_iconst (v := 1) hx hb dL_graph_25 (by decide) ?_
    refine lv_istore_n (lv' := [(2, .int 1), (1, .int 0), (0, .ref c0)]) hx hb dL_graph_26 rfl hl (by decide) rfl (fun ls hl => ?_)
    exact w_27    ()  N _ _  _ _ _ hP hD hS (lv_sub hl [2, 1, 0] rfl) h
  · have h := ip c_1048 h
    refine lv_aload_n hx hb dL_graph_11 rfl (lv_at hl 0 rfl) ?_
    refine lv_iconst (v := 0) hx hb dL_graph_12 (by decide) ?_
    obtain ⟨u_1049, hc_1050, h⟩ := bdn_n h
    refine wafter_i (wr := []) (w2 := (w_C G c0 l0 l1 l2 l3 m0 m1 m2 m3 m4 m5 r0 r1 r2 r3 g0 g_e l_a l_b l_c l_n m_x m_y m_d m_t m_v m_n r_s r_n r_w r_k)) (va_runV (As := [.int 0]) (rest := []) ⟨hx, hb, hml, hown, hts⟩ (nX4_colourings (l := l) (G := G) c0 l0 l1 l2 l3 m0 m1 m2 m3 m4 m5 r0 r1 r2 r3 g0 g_e l_a l_b l_c l_n m_x m_y m_d m_t m_v m_n r_s r_n r_w r_k 0 N u_1049 hc_1050 _) (cwV 1 hts gL_graph_X4_colourings rfl rfl rfl (by decide +kernel) ⟨Nat.le_of_ble_eq_true rfl, Nat.le_of_ble_eq_true rfl⟩) (wPreV hP hD hK [0, 1, 2, 3, 4, 5, 6, 7, 8, 9, 10, 11, 12, 13, 14, 15] rfl rfl (ci := 4) (qb := 0) rfl rfl rfl) rfl rfl hl.1 rfl (lv_room (Nat.le_of_ble_eq_true rfl)) dL_graph_13 ⟨Nat.zero_le _, Nat.zero_le _⟩) hP hD hS hA [0, 1, 2, 3, 4, 5, 6, 7, 8, 9, 10, 11, 12, 13, 14, 15] [] [0, 1, 2, 3, 4, 5, 6, 7, 8, 9, 10, 11, 12, 13, 14, 15] rfl rfl rfl (by decide) rfl rfl (fun H locs hP hD hS => ?_)
    refine lv_if_ne (tgt := 23) hx hb dL_graph_16 (by decide) (fun c_1051 => ?_) (fun c_1051 => ?_)
    · have h := iq c_1051 h
      refine lv_iconst (v := 0) hx hb dL_graph_23 (by decide) ?_
      refine lv_istore_n (lv' := [(1, .int 0), (0, .ref c0)]) hx hb dL_graph_24 rfl hl (by decide) rfl (fun ls hl => ?_)
      refine lv_iconst (v := 1) hx hb dL_graph_25 (by decide) ?_
      refine lv_istore_n (lv' := [(2, .int 1), (1, .int 0), (0, .ref c0)]) hx hb dL_graph_26 rfl hl (by decide) rfl (fun ls hl => ?_)
      exact w_27    ()  N _ _  _ _ _ hP hD hS (lv_sub hl [2, 1, 0] rfl) h
    · have h := ip c_1051 h
      refine lv_iconst (v := 1) hx hb dL_graph_19 (by decide) ?_
      refine lv_goto (tgt := 24) hx hb dL_graph_20 (by decide) ?_
      refine lv_istore_n (lv' := [(1, .int 1), (0, .ref c0)]) hx hb dL_graph_24 rfl hl (by decide) rfl (fun ls hl => ?_)
      refine lv_iconst (v := 1) hx hb dL_graph_25 (by decide) ?_
      refine lv_istore_n (lv' := [(2, .int 1), (1, .int 1), (0, .ref c0)]) hx hb dL_graph_26 rfl hl (by decide) rfl (fun ls hl => ?_)
      exact w_27    ()  N _ _  _ _ _ hP hD hS (lv_sub hl [2, 1, 0] rfl) h
