abbrev w_CE (G : wG) (c0 l0 l1 l2 l3 m0 m1 m2 m3 m4 m5 r0 r1 r2 r3 g0 e0 : Nat) (g_e : Int64) (l_a : Nat → Int32) (l_b : Nat → Int32) (l_c : Nat → Int32) (l_n : Int32) (m_x : Nat → Int32) (m_y : Nat → Int32) (m_d : Nat → Int32) (m_t : Nat → Int32) (m_v : Nat → Int32) (m_n : Int32) (r_s : Nat → Int32) (r_n : Nat → Int32) (r_w : Nat → Int32) (r_k : Int32) (e_v : Nat → Int32) : va_W := [(c0, .inr (4, [.ref l0, .ref m0, .ref r0, .ref g0])), (l0, .inr (1, [.ref l1, .ref l2, .ref l3, .int l_n])), (l1, .inl (G.2.1, 9, .inl l_a)), (l2, .inl (G.2.1, 9, .inl l_b)), (l3, .inl (G.2.1, 9, .inl l_c)), (m0, .inr (2, [.ref m1, .ref m2, .ref m3, .ref m4, .ref m5, .int m_n])), (m1, .inl (G.2.1, 36, .inl m_x)), (m2, .inl (G.2.1, 36, .inl m_y)), (m3, .inl (G.2.1, 36, .inl m_d)), (m4, .inl (G.2.1, 36, .inl m_t)), (m5, .inl (G.2.1, 36, .inl m_v)), (r0, .inr (3, [.ref r1, .ref r2, .ref r3, .int r_k])), (r1, .inl (G.2.1, 46, .inl r_s)), (r2, .inl (G.2.1, 512, .inl r_n)), (r3, .inl (G.2.1, 512, .inl r_w)), (g0, .inr (0, [.long g_e])), (e0, .inl (G.2.1, 36, .inl e_v))]
def fL_law_b356 (N L : Nat) (xs : Nat → Int32) (x9 : Int32) (x10 : Int32) (g_e : Int64) (s0 : Int32) (s1 : Int32) (k_374 : Int32 → Int64 → Option Unit) : Option Unit := bdn (fX4_edge N g_e x9 x10) (fun u_1 => if u_1.1 = (s0 + s1) then k_374 (s0 + s1) u_1.2 else none)
def fL_law_b329 (N L : Nat) (xs : Nat → Int32) (x9 : Int32) (x10 : Int32) (x4 : Int32) (g_e : Int64) (e_v : Nat → Int32) (s0 : Int32) (k_374 : Int32 → Int64 → (Nat → Int32) → Option Unit) : Option Unit := rd e_v 36 s0 (fun v_4 => ck 36 s0 (rd ((upd e_v (Int32.toNatClampNeg s0) (1 - v_4))) 36 s0 (fun v_5 => if v_5 = 1 then fL_law_b356 N L xs x9 x10 g_e x4 1 (fun (x4_9 : Int32) (g_e_10 : Int64) => k_374 x4_9 g_e_10 ((upd e_v (Int32.toNatClampNeg s0) (1 - v_4)))) else fL_law_b356 N L xs x9 x10 g_e x4 (-1) (fun (x4_7 : Int32) (g_e_8 : Int64) => k_374 x4_7 g_e_8 ((upd e_v (Int32.toNatClampNeg s0) (1 - v_4)))))))
def fL_law_b276 (N L : Nat) (xs : Nat → Int32) (x7 : Int32) (x4 : Int32) (g_e : Int64) (e_v : Nat → Int32) (k_374 : Int32 → Int64 → (Nat → Int32) → Option Unit) : Option Unit := bd (fL_low N x7 6) (fun u_11 => bd (fL_low N (x7 >>> (4 &&& 31)) 5) (fun u_13 => nz 6 (nm (((u_11 + 1) + u_13) - ((u_11 + 1) + u_13) / 6 * 6) (fun x10_15 => if x10_15 ≤ u_11 then fL_law_b329 N L xs u_11 x10_15 x4 g_e e_v ((6 * x10_15) + u_11) (fun (x4_17 : Int32) (g_e_18 : Int64) (e_v_19 : Nat → Int32) => k_374 x4_17 g_e_18 e_v_19) else fL_law_b329 N L xs u_11 x10_15 x4 g_e e_v ((6 * u_11) + x10_15) (fun (x4_20 : Int32) (g_e_21 : Int64) (e_v_22 : Nat → Int32) => k_374 x4_20 g_e_21 e_v_22)))))
def fL_law_b554 (N L : Nat) (xs : Nat → Int32) (l_a : Nat → Int32) (l_b : Nat → Int32) (l_n : Int32) (m_x : Nat → Int32) (m_y : Nat → Int32) (m_d : Nat → Int32) (m_t : Nat → Int32) (m_v : Nat → Int32) (m_n : Int32) (r_s : Nat → Int32) (r_n : Nat → Int32) (r_k : Int32) (x13 : Int32) (x5 : Int32) (s1 : Int32) (s2 : Int32) (s3 : Int32) (k_21 : Int32 → Option Unit) : Option Unit := bd (fL_meets N l_a l_b l_n m_x m_y m_d m_t m_v m_n r_s r_n r_k s1 s2 s3 x13) (fun u_23 => if u_23 = 0 then none else k_21 (x5 + 1))
def fL_law_b483 (N L : Nat) (xs : Nat → Int32) (l_a : Nat → Int32) (l_b : Nat → Int32) (l_n : Int32) (m_x : Nat → Int32) (m_y : Nat → Int32) (m_d : Nat → Int32) (m_t : Nat → Int32) (m_v : Nat → Int32) (m_n : Int32) (r_s : Nat → Int32) (r_n : Nat → Int32) (r_k : Int32) (x6 : Int32) (x7 : Int32) (x10 : Int32) (x11 : Int32) (x5 : Int32) (k_21 : Int32 → Option Unit) : Option Unit := bd (fL_low N (x6 >>> (4 &&& 31)) 19) (fun u_26 => bd (fL_low N (x7 >>> (8 &&& 31)) 19) (fun u_28 => if x10 ≤ 0 then k_21 (x5 + 1) else nz 4 (if (x5 - x5 / 4 * 4) = 2 then bd (fL_low N (x6 >>> (8 &&& 31)) x10) (fun u_32 => if (u_26 - 9) = 0 then if (u_28 - 9) = 0 then fL_law_b554 N L xs l_a l_b l_n m_x m_y m_d m_t m_v m_n r_s r_n r_k (u_28 - 9) x5 x11 u_32 1 (fun (x5_38 : Int32) => k_21 x5_38) else fL_law_b554 N L xs l_a l_b l_n m_x m_y m_d m_t m_v m_n r_s r_n r_k (u_28 - 9) x5 x11 u_32 (u_26 - 9) (fun (x5_37 : Int32) => k_21 x5_37) else fL_law_b554 N L xs l_a l_b l_n m_x m_y m_d m_t m_v m_n r_s r_n r_k (u_28 - 9) x5 x11 u_32 (u_26 - 9) (fun (x5_35 : Int32) => k_21 x5_35)) else k_21 (x5 + 1))))
def fL_law_b456 (N L : Nat) (xs : Nat → Int32) (l_a : Nat → Int32) (l_b : Nat → Int32) (l_n : Int32) (m_x : Nat → Int32) (m_y : Nat → Int32) (m_d : Nat → Int32) (m_t : Nat → Int32) (m_v : Nat → Int32) (m_n : Int32) (r_s : Nat → Int32) (r_n : Nat → Int32) (r_k : Int32) (x6 : Int32) (x7 : Int32) (x9 : Int32) (x10 : Int32) (x11 : Int32) (x5 : Int32) (r_w : Nat → Int32) (k_21 : Int32 → (Nat → Int32) → Option Unit) : Option Unit := nz 6 (if (x5 - x5 / 6 * 6) = 5 then bd (fL_low N x6 x9) (fun u_41 => bd (fL_galleries N l_a l_b l_n m_t m_v m_n r_s r_n r_w r_k x11 u_41) (fun u_43 => if u_43.1 = 0 then none else fL_law_b483 N L xs l_a l_b l_n m_x m_y m_d m_t m_v m_n r_s r_n r_k x6 x7 x10 x11 x5 (fun (x5_46 : Int32) => k_21 x5_46 u_43.2))) else fL_law_b483 N L xs l_a l_b l_n m_x m_y m_d m_t m_v m_n r_s r_n r_k x6 x7 x10 x11 x5 (fun (x5_40 : Int32) => k_21 x5_40 r_w))
def fL_law_b416 (N L : Nat) (xs : Nat → Int32) (l_a : Nat → Int32) (l_b : Nat → Int32) (l_n : Int32) (m_x : Nat → Int32) (m_y : Nat → Int32) (m_d : Nat → Int32) (m_t : Nat → Int32) (m_v : Nat → Int32) (m_n : Int32) (r_s : Nat → Int32) (r_n : Nat → Int32) (r_k : Int32) (x6 : Int32) (x7 : Int32) (x5 : Int32) (r_w : Nat → Int32) (k_21 : Int32 → (Nat → Int32) → Option Unit) : Option Unit := bd (fX4_rooms N r_k) (fun u_47 => bd (fX4_meets N m_n) (fun u_49 => bd (fL_low N x7 u_47) (fun u_51 => nz 2 (if (x5 - x5 / 2 * 2) = 1 then bd (fL_rooms N l_a l_b l_n m_t m_v m_n r_s r_n r_k u_51 u_49) (fun u_56 => if u_56 = 0 then none else fL_law_b456 N L xs l_a l_b l_n m_x m_y m_d m_t m_v m_n r_s r_n r_k x6 x7 u_47 u_49 u_51 x5 r_w (fun (x5_59 : Int32) (r_w_60 : Nat → Int32) => k_21 x5_59 r_w_60)) else fL_law_b456 N L xs l_a l_b l_n m_x m_y m_d m_t m_v m_n r_s r_n r_k x6 x7 u_47 u_49 u_51 x5 r_w (fun (x5_54 : Int32) (r_w_55 : Nat → Int32) => k_21 x5_54 r_w_55)))))
def fL_law_b374 (N L : Nat) (xs : Nat → Int32) (g_e : Int64) (l_a : Nat → Int32) (l_b : Nat → Int32) (l_c : Nat → Int32) (l_n : Int32) (m_x : Nat → Int32) (m_y : Nat → Int32) (m_d : Nat → Int32) (m_t : Nat → Int32) (m_v : Nat → Int32) (m_n : Int32) (r_s : Nat → Int32) (r_n : Nat → Int32) (r_k : Int32) (x3 : Int32) (x4 : Int32) (x6 : Int32) (x7 : Int32) (x5 : Int32) (r_w : Nat → Int32) (k_21 : Int32 → (Nat → Int32) → Option Unit) : Option Unit := bd (fL_counts N l_a l_b l_c l_n m_t m_n r_s r_k x3) (fun u_61 => if u_61 = 0 then none else nz 8 (if (x5 - x5 / 8 * 8) = 7 then bd (fL_mirrors N l_a l_b l_c l_n x3) (fun u_67 => if u_67 = 0 then none else if 9 < x4 then fL_law_b416 N L xs l_a l_b l_n m_x m_y m_d m_t m_v m_n r_s r_n r_k x6 x7 x5 r_w (fun (x5_71 : Int32) (r_w_72 : Nat → Int32) => k_21 x5_71 r_w_72) else bd (fL_graph N g_e) (fun u_73 => if u_73 = 0 then none else fL_law_b416 N L xs l_a l_b l_n m_x m_y m_d m_t m_v m_n r_s r_n r_k x6 x7 x5 r_w (fun (x5_76 : Int32) (r_w_77 : Nat → Int32) => k_21 x5_76 r_w_77))) else fL_law_b416 N L xs l_a l_b l_n m_x m_y m_d m_t m_v m_n r_s r_n r_k x6 x7 x5 r_w (fun (x5_65 : Int32) (r_w_66 : Nat → Int32) => k_21 x5_65 r_w_66)))
def fL_law_b223 (N L : Nat) (xs : Nat → Int32) (s0 : Int32) (s1 : Int32) (k_228 : Option Unit) : Option Unit := if s0 = s1 then k_228 else none
def fL_law_b208 (N L : Nat) (xs : Nat → Int32) (x10 : Int32) (x11 : Int32) (s0 : Int32) (k_228 : Option Unit) : Option Unit := if x10 = 0 then if x11 = 0 then fL_law_b223 N L xs s0 1 k_228 else fL_law_b223 N L xs s0 0 k_228 else fL_law_b223 N L xs s0 0 k_228
def fL_law_b228 (N L : Nat) (xs : Nat → Int32) (x13 : Int32) (x3 : Int32) (k_374 : Int32 → Option Unit) : Option Unit := if x13 < 0 then k_374 (x3 + 0) else k_374 (x3 + 1)
def fL_law_b96 (N L : Nat) (xs : Nat → Int32) (x6 : Int32) (x3 : Int32) (l_a : Nat → Int32) (l_b : Nat → Int32) (l_c : Nat → Int32) (l_n : Int32) (m_x : Nat → Int32) (m_y : Nat → Int32) (m_d : Nat → Int32) (m_t : Nat → Int32) (m_v : Nat → Int32) (m_n : Int32) (r_s : Nat → Int32) (r_n : Nat → Int32) (r_k : Int32) (s0 : Int32) (k_374 : Int32 → (Nat → Int32) → (Nat → Int32) → (Nat → Int32) → Int32 → (Nat → Int32) → (Nat → Int32) → (Nat → Int32) → (Nat → Int32) → (Nat → Int32) → Int32 → (Nat → Int32) → (Nat → Int32) → Int32 → Option Unit) : Option Unit := bd (fL_low N x6 ((2 * s0) + 1)) (fun u_82 => bd (fL_low N (x6 >>> (5 &&& 31)) ((2 * s0) + 1)) (fun u_84 => bd (fL_low N (x6 >>> (10 &&& 31)) ((2 * s0) + 1)) (fun u_86 => bd (fL_tryLine N l_a l_b l_c l_n m_x m_y m_d m_t m_v m_n r_s r_n r_k (u_82 - s0) (u_84 - s0) (u_86 - s0)) (fun u_88 => if u_88.1 < 0 then if u_88.1 = (-100) then fL_law_b208 N L xs (u_82 - s0) (u_84 - s0) 1 (fL_law_b228 N L xs u_88.1 x3 (fun (x3_93 : Int32) => k_374 x3_93 u_88.2.1 u_88.2.2.1 u_88.2.2.2.1 u_88.2.2.2.2.1 u_88.2.2.2.2.2.1 u_88.2.2.2.2.2.2.1 u_88.2.2.2.2.2.2.2.1 u_88.2.2.2.2.2.2.2.2.1 u_88.2.2.2.2.2.2.2.2.2.1 u_88.2.2.2.2.2.2.2.2.2.2.1 u_88.2.2.2.2.2.2.2.2.2.2.2.1 u_88.2.2.2.2.2.2.2.2.2.2.2.2.1 u_88.2.2.2.2.2.2.2.2.2.2.2.2.2)) else fL_law_b208 N L xs (u_82 - s0) (u_84 - s0) 0 (fL_law_b228 N L xs u_88.1 x3 (fun (x3_92 : Int32) => k_374 x3_92 u_88.2.1 u_88.2.2.1 u_88.2.2.2.1 u_88.2.2.2.2.1 u_88.2.2.2.2.2.1 u_88.2.2.2.2.2.2.1 u_88.2.2.2.2.2.2.2.1 u_88.2.2.2.2.2.2.2.2.1 u_88.2.2.2.2.2.2.2.2.2.1 u_88.2.2.2.2.2.2.2.2.2.2.1 u_88.2.2.2.2.2.2.2.2.2.2.2.1 u_88.2.2.2.2.2.2.2.2.2.2.2.2.1 u_88.2.2.2.2.2.2.2.2.2.2.2.2.2)) else if u_88.1 = x3 then bd (fL_tryLine N u_88.2.1 u_88.2.2.1 u_88.2.2.2.1 u_88.2.2.2.2.1 u_88.2.2.2.2.2.1 u_88.2.2.2.2.2.2.1 u_88.2.2.2.2.2.2.2.1 u_88.2.2.2.2.2.2.2.2.1 u_88.2.2.2.2.2.2.2.2.2.1 u_88.2.2.2.2.2.2.2.2.2.2.1 u_88.2.2.2.2.2.2.2.2.2.2.2.1 u_88.2.2.2.2.2.2.2.2.2.2.2.2.1 u_88.2.2.2.2.2.2.2.2.2.2.2.2.2 (-(u_82 - s0)) (-(u_84 - s0)) (-(u_86 - s0))) (fun u_95 => if u_95.1 = (-200) then fL_law_b228 N L xs u_88.1 x3 (fun (x3_98 : Int32) => k_374 x3_98 u_95.2.1 u_95.2.2.1 u_95.2.2.2.1 u_95.2.2.2.2.1 u_95.2.2.2.2.2.1 u_95.2.2.2.2.2.2.1 u_95.2.2.2.2.2.2.2.1 u_95.2.2.2.2.2.2.2.2.1 u_95.2.2.2.2.2.2.2.2.2.1 u_95.2.2.2.2.2.2.2.2.2.2.1 u_95.2.2.2.2.2.2.2.2.2.2.2.1 u_95.2.2.2.2.2.2.2.2.2.2.2.2.1 u_95.2.2.2.2.2.2.2.2.2.2.2.2.2) else none) else none))))
def fL_law_b70 (N L : Nat) (xs : Nat → Int32) (x6 : Int32) (x7 : Int32) (x3 : Int32) (x4 : Int32) (x5 : Int32) (g_e : Int64) (l_a : Nat → Int32) (l_b : Nat → Int32) (l_c : Nat → Int32) (l_n : Int32) (m_x : Nat → Int32) (m_y : Nat → Int32) (m_d : Nat → Int32) (m_t : Nat → Int32) (m_v : Nat → Int32) (m_n : Int32) (r_s : Nat → Int32) (r_n : Nat → Int32) (r_w : Nat → Int32) (r_k : Int32) (e_v : Nat → Int32) (s0 : Int32) (k_21 : Int32 → Int32 → Int32 → Int64 → (Nat → Int32) → (Nat → Int32) → (Nat → Int32) → Int32 → (Nat → Int32) → (Nat → Int32) → (Nat → Int32) → (Nat → Int32) → (Nat → Int32) → Int32 → (Nat → Int32) → (Nat → Int32) → (Nat → Int32) → Int32 → (Nat → Int32) → Option Unit) : Option Unit := if 4 ≤ s0 then if s0 = 4 then if x3 ≤ 2 then fL_law_b276 N L xs x7 x4 g_e e_v (fun (x4_107 : Int32) (g_e_108 : Int64) (e_v_109 : Nat → Int32) => fL_law_b374 N L xs g_e_108 l_a l_b l_c l_n m_x m_y m_d m_t m_v m_n r_s r_n r_k x3 x4_107 x6 x7 x5 r_w (fun (x5_110 : Int32) (r_w_111 : Nat → Int32) => k_21 x3 x4_107 x5_110 g_e_108 l_a l_b l_c l_n m_x m_y m_d m_t m_v m_n r_s r_n r_w_111 r_k e_v_109)) else bd (fL_low N x6 ((x3 + (-1)) + 1)) (fun u_112 => bdn (fX4_takeAway N l_a l_b l_c l_n m_x m_y m_d m_t m_v m_n r_s r_n r_k u_112) (fun u_114 => if u_114.1 = (x3 + (-1)) then fL_law_b374 N L xs g_e u_114.2.1 u_114.2.2.1 u_114.2.2.2.1 u_114.2.2.2.2.1 u_114.2.2.2.2.2.1 u_114.2.2.2.2.2.2.1 u_114.2.2.2.2.2.2.2.1 u_114.2.2.2.2.2.2.2.2.1 u_114.2.2.2.2.2.2.2.2.2.1 u_114.2.2.2.2.2.2.2.2.2.2.1 u_114.2.2.2.2.2.2.2.2.2.2.2.1 u_114.2.2.2.2.2.2.2.2.2.2.2.2.1 u_114.2.2.2.2.2.2.2.2.2.2.2.2.2 (x3 + (-1)) x4 x6 x7 x5 r_w (fun (x5_117 : Int32) (r_w_118 : Nat → Int32) => k_21 (x3 + (-1)) x4 x5_117 g_e u_114.2.1 u_114.2.2.1 u_114.2.2.2.1 u_114.2.2.2.2.1 u_114.2.2.2.2.2.1 u_114.2.2.2.2.2.2.1 u_114.2.2.2.2.2.2.2.1 u_114.2.2.2.2.2.2.2.2.1 u_114.2.2.2.2.2.2.2.2.2.1 u_114.2.2.2.2.2.2.2.2.2.2.1 u_114.2.2.2.2.2.2.2.2.2.2.2.1 u_114.2.2.2.2.2.2.2.2.2.2.2.2.1 r_w_118 u_114.2.2.2.2.2.2.2.2.2.2.2.2.2 e_v) else none)) else fL_law_b276 N L xs x7 x4 g_e e_v (fun (x4_101 : Int32) (g_e_102 : Int64) (e_v_103 : Nat → Int32) => fL_law_b374 N L xs g_e_102 l_a l_b l_c l_n m_x m_y m_d m_t m_v m_n r_s r_n r_k x3 x4_101 x6 x7 x5 r_w (fun (x5_104 : Int32) (r_w_105 : Nat → Int32) => k_21 x3 x4_101 x5_104 g_e_102 l_a l_b l_c l_n m_x m_y m_d m_t m_v m_n r_s r_n r_w_105 r_k e_v_103)) else bd (fL_low N (x7 >>> (20 &&& 31)) 3) (fun u_119 => if u_119 = 0 then fL_law_b96 N L xs x6 x3 l_a l_b l_c l_n m_x m_y m_d m_t m_v m_n r_s r_n r_k 9 (fun (x3_138 : Int32) (l_a_139 : Nat → Int32) (l_b_140 : Nat → Int32) (l_c_141 : Nat → Int32) (l_n_142 : Int32) (m_x_143 : Nat → Int32) (m_y_144 : Nat → Int32) (m_d_145 : Nat → Int32) (m_t_146 : Nat → Int32) (m_v_147 : Nat → Int32) (m_n_148 : Int32) (r_s_149 : Nat → Int32) (r_n_150 : Nat → Int32) (r_k_151 : Int32) => fL_law_b374 N L xs g_e l_a_139 l_b_140 l_c_141 l_n_142 m_x_143 m_y_144 m_d_145 m_t_146 m_v_147 m_n_148 r_s_149 r_n_150 r_k_151 x3_138 x4 x6 x7 x5 r_w (fun (x5_152 : Int32) (r_w_153 : Nat → Int32) => k_21 x3_138 x4 x5_152 g_e l_a_139 l_b_140 l_c_141 l_n_142 m_x_143 m_y_144 m_d_145 m_t_146 m_v_147 m_n_148 r_s_149 r_n_150 r_w_153 r_k_151 e_v)) else fL_law_b96 N L xs x6 x3 l_a l_b l_c l_n m_x m_y m_d m_t m_v m_n r_s r_n r_k 2 (fun (x3_122 : Int32) (l_a_123 : Nat → Int32) (l_b_124 : Nat → Int32) (l_c_125 : Nat → Int32) (l_n_126 : Int32) (m_x_127 : Nat → Int32) (m_y_128 : Nat → Int32) (m_d_129 : Nat → Int32) (m_t_130 : Nat → Int32) (m_v_131 : Nat → Int32) (m_n_132 : Int32) (r_s_133 : Nat → Int32) (r_n_134 : Nat → Int32) (r_k_135 : Int32) => fL_law_b374 N L xs g_e l_a_123 l_b_124 l_c_125 l_n_126 m_x_127 m_y_128 m_d_129 m_t_130 m_v_131 m_n_132 r_s_133 r_n_134 r_k_135 x3_122 x4 x6 x7 x5 r_w (fun (x5_136 : Int32) (r_w_137 : Nat → Int32) => k_21 x3_122 x4 x5_136 g_e l_a_123 l_b_124 l_c_125 l_n_126 m_x_127 m_y_128 m_d_129 m_t_130 m_v_131 m_n_132 r_s_133 r_n_134 r_w_137 r_k_135 e_v)))
def fL_law_b21 (N L : Nat) (xs : Nat → Int32) : Nat → Int32 → Int32 → Int32 → Int64 → (Nat → Int32) → (Nat → Int32) → (Nat → Int32) → Int32 → (Nat → Int32) → (Nat → Int32) → (Nat → Int32) → (Nat → Int32) → (Nat → Int32) → Int32 → (Nat → Int32) → (Nat → Int32) → (Nat → Int32) → Int32 → (Nat → Int32) → Option Unit
  | 0, _, _, _, _, _, _, _, _, _, _, _, _, _, _, _, _, _, _, _ => none
  | n + 1, x3, x4, x5, g_e, l_a, l_b, l_c, l_n, m_x, m_y, m_d, m_t, m_v, m_n, r_s, r_n, r_w, r_k, e_v => if 24 ≤ x5 then some () else bd (fL_cell L xs (2 * x5)) (fun u_155 => bd (fL_cell L xs ((2 * x5) + 1)) (fun u_157 => if 3 ≤ x5 then bd (fL_low N (u_155 >>> (20 &&& 31)) 8) (fun u_160 => fL_law_b70 N L xs u_155 u_157 x3 x4 x5 g_e l_a l_b l_c l_n m_x m_y m_d m_t m_v m_n r_s r_n r_w r_k e_v u_160 (fun (x3_162 : Int32) (x4_163 : Int32) (x5_164 : Int32) (g_e_165 : Int64) (l_a_166 : Nat → Int32) (l_b_167 : Nat → Int32) (l_c_168 : Nat → Int32) (l_n_169 : Int32) (m_x_170 : Nat → Int32) (m_y_171 : Nat → Int32) (m_d_172 : Nat → Int32) (m_t_173 : Nat → Int32) (m_v_174 : Nat → Int32) (m_n_175 : Int32) (r_s_176 : Nat → Int32) (r_n_177 : Nat → Int32) (r_w_178 : Nat → Int32) (r_k_179 : Int32) (e_v_180 : Nat → Int32) => fL_law_b21 N L xs n x3_162 x4_163 x5_164 g_e_165 l_a_166 l_b_167 l_c_168 l_n_169 m_x_170 m_y_171 m_d_172 m_t_173 m_v_174 m_n_175 r_s_176 r_n_177 r_w_178 r_k_179 e_v_180)) else fL_law_b70 N L xs u_155 u_157 x3 x4 x5 g_e l_a l_b l_c l_n m_x m_y m_d m_t m_v m_n r_s r_n r_w r_k e_v 0 (fun (x3_181 : Int32) (x4_182 : Int32) (x5_183 : Int32) (g_e_184 : Int64) (l_a_185 : Nat → Int32) (l_b_186 : Nat → Int32) (l_c_187 : Nat → Int32) (l_n_188 : Int32) (m_x_189 : Nat → Int32) (m_y_190 : Nat → Int32) (m_d_191 : Nat → Int32) (m_t_192 : Nat → Int32) (m_v_193 : Nat → Int32) (m_n_194 : Int32) (r_s_195 : Nat → Int32) (r_n_196 : Nat → Int32) (r_w_197 : Nat → Int32) (r_k_198 : Int32) (e_v_199 : Nat → Int32) => fL_law_b21 N L xs n x3_181 x4_182 x5_183 g_e_184 l_a_185 l_b_186 l_c_187 l_n_188 m_x_189 m_y_190 m_d_191 m_t_192 m_v_193 m_n_194 r_s_195 r_n_196 r_w_197 r_k_198 e_v_199)))
set_option maxHeartbeats 40000000 in
set_option maxRecDepth 100000 in
theorem law_walk {p : Program} {l : Launch} (hst : l.stackTraces = false) {e : Env} {s : State} {m : MethodId} {below : List Frame} {meth : Method} {c0v : Code} {G : wG} {b L : Nat} {xs : Nat → Int32} {A : Nat → Prop} (hL : L ≤ 260) (C0 : lw_At p s m meth c0v b L xs) (hK : wK G s) (hT : wT A s s.heap) (hA : ∀ q : Nat, s.heap.size ≤ q → A q) (hAo : ∀ q : Nat, A q → s.heap.size ≤ q) (c0 l0 l1 l2 l3 m0 m1 m2 m3 m4 m5 r0 r1 r2 r3 g0 e0 : Nat) (N : Nat) (x3 : Int32) (x4 : Int32) (x5 : Int32) (g_e : Int64) (l_a : Nat → Int32) (l_b : Nat → Int32) (l_c : Nat → Int32) (l_n : Int32) (m_x : Nat → Int32) (m_y : Nat → Int32) (m_d : Nat → Int32) (m_t : Nat → Int32) (m_v : Nat → Int32) (m_n : Int32) (r_s : Nat → Int32) (r_n : Nat → Int32) (r_w : Nat → Int32) (r_k : Int32) (e_v : Nat → Int32) (H : Heap) (locs : List Loc) (ls : Array Slot) (hP : va_P G.1 vwCl (w_CE G c0 l0 l1 l2 l3 m0 m1 m2 m3 m4 m5 r0 r1 r2 r3 g0 e0 g_e l_a l_b l_c l_n m_x m_y m_d m_t m_v m_n r_s r_n r_w r_k e_v) H) (hD : va_D A (w_CE G c0 l0 l1 l2 l3 m0 m1 m2 m3 m4 m5 r0 r1 r2 r3 g0 e0 g_e l_a l_b l_c l_n m_x m_y m_d m_t m_v m_n r_s r_n r_w r_k e_v)) (hS : va_S A s.heap H locs) (hl : lv_has ls 14 [(0, .ref b), (1, .ref c0), (2, .ref e0), (3, .int x3), (4, .int x4), (5, .int x5)]) (h : fL_law_b21 N L xs 25 x3 x4 x5 g_e l_a l_b l_c l_n m_x m_y m_d m_t m_v m_n r_s r_n r_w r_k e_v = some ()) : W p l e room_1 s m #[Value.ref b] below meth c0v H locs (30 + 8 * 0 + 0) (2600 + 48 * 0 + 0) (lw_Z below #[Value.ref b] s) (F0 m 21 ls []) := by
  obtain ⟨v, hv⟩ : ∃ v : Unit, v = () := ⟨_, rfl⟩
  rw [← hv] at h
  obtain ⟨hx, hb, hr, hml, hown0, hts0, hX, hbl, hlocks, hgv⟩ := C0
  have hown : s.vm.findClass RL = some m.cls := hown0
  have hts : ∀ w ∈ wsL_law, w.before #[Value.ref b] s = true := fun w h => hts0 w (wsL_law_in w h)
  have hbA : ¬ A b := fun z => absurd (hAo b z) (Nat.not_le.mpr hbl)
  have w_356 : ∀ (a : Nat) (ha : a ≤ 24) (k_374 : Int32 → Int64 → Option Unit) (x3 : Int32) (x5 : Int32) (x6 : Int32) (x7 : Int32) (x9 : Int32) (x10 : Int32) (g_e : Int64) (l_a : Nat → Int32) (l_b : Nat → Int32) (l_c : Nat → Int32) (l_n : Int32) (m_x : Nat → Int32) (m_y : Nat → Int32) (m_d : Nat → Int32) (m_t : Nat → Int32) (m_v : Nat → Int32) (m_n : Int32) (r_s : Nat → Int32) (r_n : Nat → Int32) (r_w : Nat → Int32) (r_k : Int32) (e_v : Nat → Int32) (s0 : Int32) (s1 : Int32) (H : Heap) (locs : List Loc) (ls : Array Slot), (∀ (y4 : Int32) (yg_e : Int64) (H : Heap) (locs : List Loc) (ls : Array Slot), va_P G.1 vwCl (w_CE G c0 l0 l1 l2 l3 m0 m1 m2 m3 m4 m5 r0 r1 r2 r3 g0 e0 yg_e l_a l_b l_c l_n m_x m_y m_d m_t m_v m_n r_s r_n r_w r_k e_v) H → va_D A (w_CE G c0 l0 l1 l2 l3 m0 m1 m2 m3 m4 m5 r0 r1 r2 r3 g0 e0 yg_e l_a l_b l_c l_n m_x m_y m_d m_t m_v m_n r_s r_n r_w r_k e_v) → va_S A s.heap H locs → lv_has ls 14 [(0, .ref b), (1, .ref c0), (2, .ref e0), (3, .int x3), (4, .int y4), (5, .int x5), (6, .int x6), (7, .int x7)] → k_374 y4 yg_e = some v → W p l e room_1 s m #[Value.ref b] below meth c0v H locs (30 + 8 * a + 8) (2600 + 48 * a + 48) (lw_Z below #[Value.ref b] s) (F0 m 374 ls [])) → va_P G.1 vwCl (w_CE G c0 l0 l1 l2 l3 m0 m1 m2 m3 m4 m5 r0 r1 r2 r3 g0 e0 g_e l_a l_b l_c l_n m_x m_y m_d m_t m_v m_n r_s r_n r_w r_k e_v) H → va_D A (w_CE G c0 l0 l1 l2 l3 m0 m1 m2 m3 m4 m5 r0 r1 r2 r3 g0 e0 g_e l_a l_b l_c l_n m_x m_y m_d m_t m_v m_n r_s r_n r_w r_k e_v) → va_S A s.heap H locs → lv_has ls 14 [(0, .ref b), (1, .ref c0), (2, .ref e0), (3, .int x3), (5, .int x5), (6, .int x6), (7, .int x7), (9, .int x9), (10, .int x10)] → fL_law_b356 N L xs x9 x10 g_e s0 s1 k_374 = some v → W p l e room_1 s m #[Value.ref b] below meth c0v H locs (30 + 8 * a + 0) (2600 + 48 * a + 0) (lw_Z below #[Value.ref b] s) (F0 m 356 ls [.int s1, .int s0]) := by
    intro a ha k_374 x3 x5 x6 x7 x9 x10 g_e l_a l_b l_c l_n m_x m_y m_d m_t m_v m_n r_s r_n r_w r_k e_v s0 s1 H locs ls hk_374 hP hD hS hl h
    rw [fL_law_b356.eq_1] at h
    refine lv_iadd hx hb dL_law_356 ?_
    refine lv_istore (lv' := [(4, .int (s0 + s1)), (0, .ref b), (1, .ref c0), (2, .ref e0), (3, .int x3), (5, .int x5), (6, .int x6), (7, .int x7), (9, .int x9), (10, .int x10)]) hx hb dL_law_357 hl (by decide) rfl (fun ls hl => ?_)
    refine lv_aload_n hx hb dL_law_359 rfl (lv_at hl 2 rfl) ?_
    refine lv_iload hx hb dL_law_360 (lv_at hl 8 rfl) ?_
    refine lv_iload hx hb dL_law_362 (lv_at hl 9 rfl) ?_
    obtain ⟨u_1, hc_2, h⟩ := bdn_n h
    refine wafter_i (wr := [(e0, .inl (G.2.1, 36, .inl e_v))]) (w2 := (w_CE G c0 l0 l1 l2 l3 m0 m1 m2 m3 m4 m5 r0 r1 r2 r3 g0 e0 u_1.2 l_a l_b l_c l_n m_x m_y m_d m_t m_v m_n r_s r_n r_w r_k e_v)) (va_runV (As := [.int x9, .int x10]) (rest := []) ⟨hx, hb, hml, hown, hts⟩ (nX4_edge (l := l) (G := G) c0 l0 l1 l2 l3 m0 m1 m2 m3 m4 m5 r0 r1 r2 r3 g0 g_e l_a l_b l_c l_n m_x m_y m_d m_t m_v m_n r_s r_n r_w r_k x9 x10 N u_1 hc_2 _) (cwV 2 hts gL_law_X4_edge rfl rfl rfl (by decide +kernel) ⟨Nat.le_of_ble_eq_true rfl, Nat.le_of_ble_eq_true rfl⟩) (wPreV hP hD hK [0, 1, 2, 3, 4, 5, 6, 7, 8, 9, 10, 11, 12, 13, 14, 15] rfl rfl (ci := 4) (qb := 0) rfl rfl rfl) rfl rfl hl.1 rfl (lv_room (Nat.le_of_ble_eq_true rfl)) dL_law_364 ⟨by show _ ≤ 600130; omega, by show _ ≤ 7301080; omega⟩) hP hD hS hA [0, 1, 2, 3, 4, 5, 6, 7, 8, 9, 10, 11, 12, 13, 14, 15] [16] [1, 2, 3, 4, 5, 6, 7, 8, 9, 10, 11, 12, 13, 14, 15, 16, 0] rfl rfl rfl (by decide) rfl rfl (fun H locs hP hD hS => ?_)
    refine lv_iload hx hb dL_law_367 (lv_at hl 0 rfl) ?_
    refine lv_icmp_eq (tgt := 374) hx hb dL_law_369 (by decide) (fun c_3 => ?_) (fun c_3 => ?_)
    · have h := ip c_3 h
      refine W.widen (k := 30 + 8 * a + 8) (n := 2600 + 48 * a + 48) (by omega) (by omega) ?_
      exact hk_374 _ _ _ _ _ hP hD hS (lv_sub hl [1, 2, 3, 4, 0, 5, 6, 7] rfl) h
    · have h := iq c_3 h
      refine lv_iconst (v := 0) hx hb dL_law_372 (by decide) ?_
      cases h
  have w_329 : ∀ (a : Nat) (ha : a ≤ 24) (k_374 : Int32 → Int64 → (Nat → Int32) → Option Unit) (x3 : Int32) (x4 : Int32) (x5 : Int32) (x6 : Int32) (x7 : Int32) (x9 : Int32) (x10 : Int32) (g_e : Int64) (l_a : Nat → Int32) (l_b : Nat → Int32) (l_c : Nat → Int32) (l_n : Int32) (m_x : Nat → Int32) (m_y : Nat → Int32) (m_d : Nat → Int32) (m_t : Nat → Int32) (m_v : Nat → Int32) (m_n : Int32) (r_s : Nat → Int32) (r_n : Nat → Int32) (r_w : Nat → Int32) (r_k : Int32) (e_v : Nat → Int32) (s0 : Int32) (H : Heap) (locs : List Loc) (ls : Array Slot), (∀ (y4 : Int32) (yg_e : Int64) (ye_v : Nat → Int32) (H : Heap) (locs : List Loc) (ls : Array Slot), va_P G.1 vwCl (w_CE G c0 l0 l1 l2 l3 m0 m1 m2 m3 m4 m5 r0 r1 r2 r3 g0 e0 yg_e l_a l_b l_c l_n m_x m_y m_d m_t m_v m_n r_s r_n r_w r_k ye_v) H → va_D A (w_CE G c0 l0 l1 l2 l3 m0 m1 m2 m3 m4 m5 r0 r1 r2 r3 g0 e0 yg_e l_a l_b l_c l_n m_x m_y m_d m_t m_v m_n r_s r_n r_w r_k ye_v) → va_S A s.heap H locs → lv_has ls 14 [(0, .ref b), (1, .ref c0), (2, .ref e0), (3, .int x3), (4, .int y4), (5, .int x5), (6, .int x6), (7, .int x7)] → k_374 y4 yg_e ye_v = some v → W p l e room_1 s m #[Value.ref b] below meth c0v H locs (30 + 8 * a + 8) (2600 + 48 * a + 48) (lw_Z below #[Value.ref b] s) (F0 m 374 ls [])) → va_P G.1 vwCl (w_CE G c0 l0 l1 l2 l3 m0 m1 m2 m3 m4 m5 r0 r1 r2 r3 g0 e0 g_e l_a l_b l_c l_n m_x m_y m_d m_t m_v m_n r_s r_n r_w r_k e_v) H → va_D A (w_CE G c0 l0 l1 l2 l3 m0 m1 m2 m3 m4 m5 r0 r1 r2 r3 g0 e0 g_e l_a l_b l_c l_n m_x m_y m_d m_t m_v m_n r_s r_n r_w r_k e_v) → va_S A s.heap H locs → lv_has ls 14 [(0, .ref b), (1, .ref c0), (2, .ref e0), (3, .int x3), (4, .int x4), (5, .int x5), (6, .int x6), (7, .int x7), (9, .int x9), (10, .int x10)] → fL_law_b329 N L xs x9 x10 x4 g_e e_v s0 k_374 = some v → W p l e room_1 s m #[Value.ref b] below meth c0v H locs (30 + 8 * a + 0) (2600 + 48 * a + 0) (lw_Z below #[Value.ref b] s) (F0 m 329 ls [.int s0]) := by
    intro a ha k_374 x3 x4 x5 x6 x7 x9 x10 g_e l_a l_b l_c l_n m_x m_y m_d m_t m_v m_n r_s r_n r_w r_k e_v s0 H locs ls hk_374 hP hD hS hl h
    rw [fL_law_b329.eq_1] at h
    refine lv_istore (lv' := [(11, .int s0), (0, .ref b), (1, .ref c0), (2, .ref e0), (3, .int x3), (4, .int x4), (5, .int x5), (6, .int x6), (7, .int x7), (9, .int x9), (10, .int x10)]) hx hb dL_law_329 hl (by decide) rfl (fun ls hl => ?_)
    refine lv_aload_n hx hb dL_law_331 rfl (lv_at hl 3 rfl) ?_
    refine lv_iload hx hb dL_law_332 (lv_at hl 0 rfl) ?_
    refine lv_iconst (v := 1) hx hb dL_law_334 (by decide) ?_
    refine lv_aload_n hx hb dL_law_335 rfl (lv_at hl 3 rfl) ?_
    refine lv_iload hx hb dL_law_336 (lv_at hl 0 rfl) ?_
    refine wiald h hx hb hK hP 16 rfl dL_law_338 (fun v_4 h => ?_)
    refine lv_isub hx hb dL_law_339 ?_
    refine wiast h hx hb hK hP hD hS 16 rfl dL_law_340 (fun H locs hP hD hS h => ?_)
    have hP : va_P G.1 vwCl (w_CE G c0 l0 l1 l2 l3 m0 m1 m2 m3 m4 m5 r0 r1 r2 r3 g0 e0 g_e l_a l_b l_c l_n m_x m_y m_d m_t m_v m_n r_s r_n r_w r_k ((upd e_v (Int32.toNatClampNeg s0) (1 - v_4)))) H := hP
    have hD : va_D A (w_CE G c0 l0 l1 l2 l3 m0 m1 m2 m3 m4 m5 r0 r1 r2 r3 g0 e0 g_e l_a l_b l_c l_n m_x m_y m_d m_t m_v m_n r_s r_n r_w r_k ((upd e_v (Int32.toNatClampNeg s0) (1 - v_4)))) := hD
    refine lv_iload hx hb dL_law_341 (lv_at hl 5 rfl) ?_
    refine lv_aload_n hx hb dL_law_343 rfl (lv_at hl 3 rfl) ?_
    refine lv_iload hx hb dL_law_344 (lv_at hl 0 rfl) ?_
    refine wiald h hx hb hK hP 16 rfl dL_law_346 (fun v_5 h => ?_)
    refine lv_iconst (v := 1) hx hb dL_law_347 (by decide) ?_
    refine lv_icmp_ne (tgt := 355) hx hb dL_law_348 (by decide) (fun c_6 => ?_) (fun c_6 => ?_)
    · have h := iq c_6 h
      refine lv_iconst (v := (-1)) hx hb dL_law_355 (by decide) ?_
      refine W.widen (k := 30 + 8 * a + 0) (n := 2600 + 48 * a + 0) (by omega) (by omega) ?_
      refine w_356 a ha _ _ _ _ _ _ _ _ _ _ _ _ _ _ _ _ _ _ _ _ _ _ _ _ _ _ _ _ (fun x4_7 g_e_8 H locs ls hP hD hS hl h => ?_) hP hD hS (lv_sub hl [1, 2, 3, 4, 6, 7, 8, 9, 10] rfl) h
      refine W.widen (k := 30 + 8 * a + 8) (n := 2600 + 48 * a + 48) (by omega) (by omega) ?_
      exact hk_374 _ _ _ _ _ _ hP hD hS (lv_sub hl [0, 1, 2, 3, 4, 5, 6, 7] rfl) h
    · have h := ip c_6 h
      refine lv_iconst (v := 1) hx hb dL_law_351 (by decide) ?_
      refine lv_goto (tgt := 356) hx hb dL_law_352 (by decide) ?_
      refine W.widen (k := 30 + 8 * a + 0) (n := 2600 + 48 * a + 0) (by omega) (by omega) ?_
      refine w_356 a ha _ _ _ _ _ _ _ _ _ _ _ _ _ _ _ _ _ _ _ _ _ _ _ _ _ _ _ _ (fun x4_9 g_e_10 H locs ls hP hD hS hl h => ?_) hP hD hS (lv_sub hl [1, 2, 3, 4, 6, 7, 8, 9, 10] rfl) h
      refine W.widen (k := 30 + 8 * a + 8) (n := 2600 + 48 * a + 48) (by omega) (by omega) ?_
      exact hk_374 _ _ _ _ _ _ hP hD hS (lv_sub hl [0, 1, 2, 3, 4, 5, 6, 7] rfl) h
  have w_276 : ∀ (a : Nat) (ha : a ≤ 24) (k_374 : Int32 → Int64 → (Nat → Int32) → Option Unit) (x3 : Int32) (x4 : Int32) (x5 : Int32) (x6 : Int32) (x7 : Int32) (g_e : Int64) (l_a : Nat → Int32) (l_b : Nat → Int32) (l_c : Nat → Int32) (l_n : Int32) (m_x : Nat → Int32) (m_y : Nat → Int32) (m_d : Nat → Int32) (m_t : Nat → Int32) (m_v : Nat → Int32) (m_n : Int32) (r_s : Nat → Int32) (r_n : Nat → Int32) (r_w : Nat → Int32) (r_k : Int32) (e_v : Nat → Int32)  (H : Heap) (locs : List Loc) (ls : Array Slot), (∀ (y4 : Int32) (yg_e : Int64) (ye_v : Nat → Int32) (H : Heap) (locs : List Loc) (ls : Array Slot), va_P G.1 vwCl (w_CE G c0 l0 l1 l2 l3 m0 m1 m2 m3 m4 m5 r0 r1 r2 r3 g0 e0 yg_e l_a l_b l_c l_n m_x m_y m_d m_t m_v m_n r_s r_n r_w r_k ye_v) H → va_D A (w_CE G c0 l0 l1 l2 l3 m0 m1 m2 m3 m4 m5 r0 r1 r2 r3 g0 e0 yg_e l_a l_b l_c l_n m_x m_y m_d m_t m_v m_n r_s r_n r_w r_k ye_v) → va_S A s.heap H locs → lv_has ls 14 [(0, .ref b), (1, .ref c0), (2, .ref e0), (3, .int x3), (4, .int y4), (5, .int x5), (6, .int x6), (7, .int x7)] → k_374 y4 yg_e ye_v = some v → W p l e room_1 s m #[Value.ref b] below meth c0v H locs (30 + 8 * a + 8) (2600 + 48 * a + 48) (lw_Z below #[Value.ref b] s) (F0 m 374 ls [])) → va_P G.1 vwCl (w_CE G c0 l0 l1 l2 l3 m0 m1 m2 m3 m4 m5 r0 r1 r2 r3 g0 e0 g_e l_a l_b l_c l_n m_x m_y m_d m_t m_v m_n r_s r_n r_w r_k e_v) H → va_D A (w_CE G c0 l0 l1 l2 l3 m0 m1 m2 m3 m4 m5 r0 r1 r2 r3 g0 e0 g_e l_a l_b l_c l_n m_x m_y m_d m_t m_v m_n r_s r_n r_w r_k e_v) → va_S A s.heap H locs → lv_has ls 14 [(0, .ref b), (1, .ref c0), (2, .ref e0), (3, .int x3), (4, .int x4), (5, .int x5), (6, .int x6), (7, .int x7)] → fL_law_b276 N L xs x7 x4 g_e e_v k_374 = some v → W p l e room_1 s m #[Value.ref b] below meth c0v H locs (30 + 8 * a + 0) (2600 + 48 * a + 0) (lw_Z below #[Value.ref b] s) (F0 m 276 ls []) := by
    intro a ha k_374 x3 x4 x5 x6 x7 g_e l_a l_b l_c l_n m_x m_y m_d m_t m_v m_n r_s r_n r_w r_k e_v H locs ls hk_374 hP hD hS hl h
    rw [fL_law_b276.eq_1] at h
    refine lv_iload hx hb dL_law_276 (lv_at hl 7 rfl) ?_
    refine lv_bipush (v := 6) hx hb dL_law_278 (by decide) ?_
    obtain ⟨u_11, hc_12, h⟩ := bd_inv h
    refine wafter_i (wr := (w_CE G c0 l0 l1 l2 l3 m0 m1 m2 m3 m4 m5 r0 r1 r2 r3 g0 e0 g_e l_a l_b l_c l_n m_x m_y m_d m_t m_v m_n r_s r_n r_w r_k e_v)) (w2 := (w_CE G c0 l0 l1 l2 l3 m0 m1 m2 m3 m4 m5 r0 r1 r2 r3 g0 e0 g_e l_a l_b l_c l_n m_x m_y m_d m_t m_v m_n r_s r_n r_w r_k e_v)) (va_runS (As := [.int x7, .int 6]) (rest := []) ⟨hx, hb, hml, hown, hts⟩ (kL_low (l := l) (G := G)   x7 6 N u_11 hc_12 _) (va_cwS 2 hts gL_law_L_low rfl rfl rfl (by decide +kernel) ⟨Nat.le_of_ble_eq_true rfl, Nat.le_of_ble_eq_true rfl⟩) (wPreS hP hD hK [] rfl rfl) rfl rfl hl.1 rfl (lv_room (Nat.le_of_ble_eq_true rfl)) dL_law_280 ⟨by show _ ≤ 600130; omega, by show _ ≤ 7301080; omega⟩) hP hD hS hA [] [0, 1, 2, 3, 4, 5, 6, 7, 8, 9, 10, 11, 12, 13, 14, 15, 16] [0, 1, 2, 3, 4, 5, 6, 7, 8, 9, 10, 11, 12, 13, 14, 15, 16] rfl rfl rfl (by decide) rfl rfl (fun H locs hP hD hS => ?_)
    refine lv_istore (lv' := [(9, .int u_11), (0, .ref b), (1, .ref c0), (2, .ref e0), (3, .int x3), (4, .int x4), (5, .int x5), (6, .int x6), (7, .int x7)]) hx hb dL_law_283 hl (by decide) rfl (fun ls hl => ?_)
    refine lv_iload hx hb dL_law_285 (lv_at hl 0 rfl) ?_
    refine lv_iconst (v := 1) hx hb dL_law_287 (by decide) ?_
    refine lv_iadd hx hb dL_law_288 ?_
    refine lv_iload hx hb dL_law_289 (lv_at hl 8 rfl) ?_
    refine lv_iconst (v := 4) hx hb dL_law_291 (by decide) ?_
    refine lv_ishr hx hb dL_law_292 ?_
    refine lv_iconst (v := 5) hx hb dL_law_293 (by decide) ?_
    obtain ⟨u_13, hc_14, h⟩ := bd_inv h
    refine wafter_i (wr := (w_CE G c0 l0 l1 l2 l3 m0 m1 m2 m3 m4 m5 r0 r1 r2 r3 g0 e0 g_e l_a l_b l_c l_n m_x m_y m_d m_t m_v m_n r_s r_n r_w r_k e_v)) (w2 := (w_CE G c0 l0 l1 l2 l3 m0 m1 m2 m3 m4 m5 r0 r1 r2 r3 g0 e0 g_e l_a l_b l_c l_n m_x m_y m_d m_t m_v m_n r_s r_n r_w r_k e_v)) (va_runS (As := [.int (x7 >>> (4 &&& 31)), .int 5]) (rest := [.int (u_11 + 1)]) ⟨hx, hb, hml, hown, hts⟩ (kL_low (l := l) (G := G)   (x7 >>> (4 &&& 31)) 5 N u_13 hc_14 _) (va_cwS 2 hts gL_law_L_low rfl rfl rfl (by decide +kernel) ⟨Nat.le_of_ble_eq_true rfl, Nat.le_of_ble_eq_true rfl⟩) (wPreS hP hD hK [] rfl rfl) rfl rfl hl.1 rfl (lv_room (Nat.le_of_ble_eq_true rfl)) dL_law_294 ⟨by show _ ≤ 600130; omega, by show _ ≤ 7301080; omega⟩) hP hD hS hA [] [0, 1, 2, 3, 4, 5, 6, 7, 8, 9, 10, 11, 12, 13, 14, 15, 16] [0, 1, 2, 3, 4, 5, 6, 7, 8, 9, 10, 11, 12, 13, 14, 15, 16] rfl rfl rfl (by decide) rfl rfl (fun H locs hP hD hS => ?_)
    refine lv_iadd hx hb dL_law_297 ?_
    refine lv_bipush (v := 6) hx hb dL_law_298 (by decide) ?_
    obtain ⟨hz, h⟩ := nz_inv h
    refine lv_irem hx hb dL_law_300 hz ?_
    refine wnmi h (fun x10_15 h => ?_)
    refine lv_istore (lv' := [(10, .int x10_15), (9, .int u_11), (0, .ref b), (1, .ref c0), (2, .ref e0), (3, .int x3), (4, .int x4), (5, .int x5), (6, .int x6), (7, .int x7)]) hx hb dL_law_301 hl (by decide) rfl (fun ls hl => ?_)
    refine lv_iload hx hb dL_law_303 (lv_at hl 1 rfl) ?_
    refine lv_iload hx hb dL_law_305 (lv_at hl 0 rfl) ?_
    refine lv_icmp_ge (tgt := 321) hx hb dL_law_307 (by decide) (fun c_16 => ?_) (fun c_16 => ?_)
    · have h := ip c_16 h
      refine lv_bipush (v := 6) hx hb dL_law_321 (by decide) ?_
      refine lv_iload hx hb dL_law_323 (lv_at hl 0 rfl) ?_
      refine lv_imul hx hb dL_law_325 ?_
      refine lv_iload hx hb dL_law_326 (lv_at hl 1 rfl) ?_
      refine lv_iadd hx hb dL_law_328 ?_
      refine W.widen (k := 30 + 8 * a + 0) (n := 2600 + 48 * a + 0) (by omega) (by omega) ?_
      refine w_329 a ha _ _ _ _ _ _ _ _ _ _ _ _ _ _ _ _ _ _ _ _ _ _ _ _ _ _ _ _ (fun x4_17 g_e_18 e_v_19 H locs ls hP hD hS hl h => ?_) hP hD hS (lv_sub hl [2, 3, 4, 5, 6, 7, 8, 9, 1, 0] rfl) h
      refine W.widen (k := 30 + 8 * a + 8) (n := 2600 + 48 * a + 48) (by omega) (by omega) ?_
      exact hk_374 _ _ _ _ _ _ hP hD hS (lv_sub hl [0, 1, 2, 3, 4, 5, 6, 7] rfl) h
    · have h := iq c_16 h
      refine lv_bipush (v := 6) hx hb dL_law_310 (by decide) ?_
      refine lv_iload hx hb dL_law_312 (lv_at hl 1 rfl) ?_
      refine lv_imul hx hb dL_law_314 ?_
      refine lv_iload hx hb dL_law_315 (lv_at hl 0 rfl) ?_
      refine lv_iadd hx hb dL_law_317 ?_
      refine lv_goto (tgt := 329) hx hb dL_law_318 (by decide) ?_
      refine W.widen (k := 30 + 8 * a + 0) (n := 2600 + 48 * a + 0) (by omega) (by omega) ?_
      refine w_329 a ha _ _ _ _ _ _ _ _ _ _ _ _ _ _ _ _ _ _ _ _ _ _ _ _ _ _ _ _ (fun x4_20 g_e_21 e_v_22 H locs ls hP hD hS hl h => ?_) hP hD hS (lv_sub hl [2, 3, 4, 5, 6, 7, 8, 9, 1, 0] rfl) h
      refine W.widen (k := 30 + 8 * a + 8) (n := 2600 + 48 * a + 48) (by omega) (by omega) ?_
      exact hk_374 _ _ _ _ _ _ hP hD hS (lv_sub hl [0, 1, 2, 3, 4, 5, 6, 7] rfl) h
  have w_554 : ∀ (a : Nat) (ha : a ≤ 24) (k_21 : Int32 → Option Unit) (x3 : Int32) (x4 : Int32) (x5 : Int32) (x13 : Int32) (g_e : Int64) (l_a : Nat → Int32) (l_b : Nat → Int32) (l_c : Nat → Int32) (l_n : Int32) (m_x : Nat → Int32) (m_y : Nat → Int32) (m_d : Nat → Int32) (m_t : Nat → Int32) (m_v : Nat → Int32) (m_n : Int32) (r_s : Nat → Int32) (r_n : Nat → Int32) (r_w : Nat → Int32) (r_k : Int32) (e_v : Nat → Int32) (s1 : Int32) (s2 : Int32) (s3 : Int32) (H : Heap) (locs : List Loc) (ls : Array Slot), (∀ (y5 : Int32) (H : Heap) (locs : List Loc) (ls : Array Slot), va_P G.1 vwCl (w_CE G c0 l0 l1 l2 l3 m0 m1 m2 m3 m4 m5 r0 r1 r2 r3 g0 e0 g_e l_a l_b l_c l_n m_x m_y m_d m_t m_v m_n r_s r_n r_w r_k e_v) H → va_D A (w_CE G c0 l0 l1 l2 l3 m0 m1 m2 m3 m4 m5 r0 r1 r2 r3 g0 e0 g_e l_a l_b l_c l_n m_x m_y m_d m_t m_v m_n r_s r_n r_w r_k e_v) → va_S A s.heap H locs → lv_has ls 14 [(0, .ref b), (1, .ref c0), (2, .ref e0), (3, .int x3), (4, .int x4), (5, .int y5)] → k_21 y5 = some v → W p l e room_1 s m #[Value.ref b] below meth c0v H locs (30 + 8 * a + 8) (2600 + 48 * a + 48) (lw_Z below #[Value.ref b] s) (F0 m 21 ls [])) → va_P G.1 vwCl (w_CE G c0 l0 l1 l2 l3 m0 m1 m2 m3 m4 m5 r0 r1 r2 r3 g0 e0 g_e l_a l_b l_c l_n m_x m_y m_d m_t m_v m_n r_s r_n r_w r_k e_v) H → va_D A (w_CE G c0 l0 l1 l2 l3 m0 m1 m2 m3 m4 m5 r0 r1 r2 r3 g0 e0 g_e l_a l_b l_c l_n m_x m_y m_d m_t m_v m_n r_s r_n r_w r_k e_v) → va_S A s.heap H locs → lv_has ls 14 [(0, .ref b), (1, .ref c0), (2, .ref e0), (3, .int x3), (4, .int x4), (5, .int x5), (13, .int x13)] → fL_law_b554 N L xs l_a l_b l_n m_x m_y m_d m_t m_v m_n r_s r_n r_k x13 x5 s1 s2 s3 k_21 = some v → W p l e room_1 s m #[Value.ref b] below meth c0v H locs (30 + 8 * a + 8) (2600 + 48 * a + 48) (lw_Z below #[Value.ref b] s) (F0 m 554 ls [.int s3, .int s2, .int s1, .ref c0]) := by
    intro a ha k_21 x3 x4 x5 x13 g_e l_a l_b l_c l_n m_x m_y m_d m_t m_v m_n r_s r_n r_w r_k e_v s1 s2 s3 H locs ls hk_21 hP hD hS hl h
    rw [fL_law_b554.eq_1] at h
    refine lv_iload hx hb dL_law_554 (lv_at hl 6 rfl) ?_
    obtain ⟨u_23, hc_24, h⟩ := bd_inv h
    refine wafter_i (wr := [(e0, .inl (G.2.1, 36, .inl e_v))]) (w2 := (w_CE G c0 l0 l1 l2 l3 m0 m1 m2 m3 m4 m5 r0 r1 r2 r3 g0 e0 g_e l_a l_b l_c l_n m_x m_y m_d m_t m_v m_n r_s r_n r_w r_k e_v)) (va_runS (As := [.ref c0, .int s1, .int s2, .int s3, .int x13]) (rest := []) ⟨hx, hb, hml, hown, hts⟩ (kL_meets (l := l) (G := G) c0 l0 l1 l2 l3 m0 m1 m2 m3 m4 m5 r0 r1 r2 r3 g0 g_e l_a l_b l_c l_n m_x m_y m_d m_t m_v m_n r_s r_n r_w r_k s1 s2 s3 x13 N u_23 hc_24 _) (va_cwS 5 hts gL_law_L_meets rfl rfl rfl (by decide +kernel) ⟨Nat.le_of_ble_eq_true rfl, Nat.le_of_ble_eq_true rfl⟩) (wPreS hP hD hK [0, 1, 2, 3, 4, 5, 6, 7, 8, 9, 10, 11, 12, 13, 14, 15] rfl rfl) rfl rfl hl.1 rfl (lv_room (Nat.le_of_ble_eq_true rfl)) dL_law_556 ⟨by show _ ≤ 600130; omega, by show _ ≤ 7301080; omega⟩) hP hD hS hA [0, 1, 2, 3, 4, 5, 6, 7, 8, 9, 10, 11, 12, 13, 14, 15] [16] [1, 2, 3, 4, 5, 6, 7, 8, 9, 10, 11, 12, 13, 14, 15, 16, 0] rfl rfl rfl (by decide) rfl rfl (fun H locs hP hD hS => ?_)
    refine lv_if_ne (tgt := 564) hx hb dL_law_559 (by decide) (fun c_25 => ?_) (fun c_25 => ?_)
    · have h := iq c_25 h
      refine lv_iinc (v := (x5 + 1)) (lv' := [(5, .int (x5 + 1)), (0, .ref b), (1, .ref c0), (2, .ref e0), (3, .int x3), (4, .int x4), (13, .int x13)]) hx hb dL_law_564 hl (k := 5) rfl rfl (by decide) rfl (fun ls hl => ?_)
      refine lv_goto (tgt := 21) hx hb dL_law_567 (by decide) ?_
      refine W.widen (k := 30 + 8 * a + 8) (n := 2600 + 48 * a + 48) (by omega) (by omega) ?_
      exact hk_21 _ _ _ _ hP hD hS (lv_sub hl [1, 2, 3, 4, 5, 0] rfl) h
    · have h := ip c_25 h
      refine lv_iconst (v := 0) hx hb dL_law_562 (by decide) ?_
      cases h
  have w_483 : ∀ (a : Nat) (ha : a ≤ 24) (k_21 : Int32 → Option Unit) (x3 : Int32) (x4 : Int32) (x5 : Int32) (x6 : Int32) (x7 : Int32) (x10 : Int32) (x11 : Int32) (g_e : Int64) (l_a : Nat → Int32) (l_b : Nat → Int32) (l_c : Nat → Int32) (l_n : Int32) (m_x : Nat → Int32) (m_y : Nat → Int32) (m_d : Nat → Int32) (m_t : Nat → Int32) (m_v : Nat → Int32) (m_n : Int32) (r_s : Nat → Int32) (r_n : Nat → Int32) (r_w : Nat → Int32) (r_k : Int32) (e_v : Nat → Int32)  (H : Heap) (locs : List Loc) (ls : Array Slot), (∀ (y5 : Int32) (H : Heap) (locs : List Loc) (ls : Array Slot), va_P G.1 vwCl (w_CE G c0 l0 l1 l2 l3 m0 m1 m2 m3 m4 m5 r0 r1 r2 r3 g0 e0 g_e l_a l_b l_c l_n m_x m_y m_d m_t m_v m_n r_s r_n r_w r_k e_v) H → va_D A (w_CE G c0 l0 l1 l2 l3 m0 m1 m2 m3 m4 m5 r0 r1 r2 r3 g0 e0 g_e l_a l_b l_c l_n m_x m_y m_d m_t m_v m_n r_s r_n r_w r_k e_v) → va_S A s.heap H locs → lv_has ls 14 [(0, .ref b), (1, .ref c0), (2, .ref e0), (3, .int x3), (4, .int x4), (5, .int y5)] → k_21 y5 = some v → W p l e room_1 s m #[Value.ref b] below meth c0v H locs (30 + 8 * a + 8) (2600 + 48 * a + 48) (lw_Z below #[Value.ref b] s) (F0 m 21 ls [])) → va_P G.1 vwCl (w_CE G c0 l0 l1 l2 l3 m0 m1 m2 m3 m4 m5 r0 r1 r2 r3 g0 e0 g_e l_a l_b l_c l_n m_x m_y m_d m_t m_v m_n r_s r_n r_w r_k e_v) H → va_D A (w_CE G c0 l0 l1 l2 l3 m0 m1 m2 m3 m4 m5 r0 r1 r2 r3 g0 e0 g_e l_a l_b l_c l_n m_x m_y m_d m_t m_v m_n r_s r_n r_w r_k e_v) → va_S A s.heap H locs → lv_has ls 14 [(0, .ref b), (1, .ref c0), (2, .ref e0), (3, .int x3), (4, .int x4), (5, .int x5), (6, .int x6), (7, .int x7), (10, .int x10), (11, .int x11)] → fL_law_b483 N L xs l_a l_b l_n m_x m_y m_d m_t m_v m_n r_s r_n r_k x6 x7 x10 x11 x5 k_21 = some v → W p l e room_1 s m #[Value.ref b] below meth c0v H locs (30 + 8 * a + 8) (2600 + 48 * a + 48) (lw_Z below #[Value.ref b] s) (F0 m 483 ls []) := by
    intro a ha k_21 x3 x4 x5 x6 x7 x10 x11 g_e l_a l_b l_c l_n m_x m_y m_d m_t m_v m_n r_s r_n r_w r_k e_v H locs ls hk_21 hP hD hS hl h
    rw [fL_law_b483.eq_1] at h
    refine lv_iload hx hb dL_law_483 (lv_at hl 6 rfl) ?_
    refine lv_iconst (v := 4) hx hb dL_law_485 (by decide) ?_
    refine lv_ishr hx hb dL_law_486 ?_
    refine lv_bipush (v := 19) hx hb dL_law_487 (by decide) ?_
    obtain ⟨u_26, hc_27, h⟩ := bd_inv h
    refine wafter_i (wr := (w_CE G c0 l0 l1 l2 l3 m0 m1 m2 m3 m4 m5 r0 r1 r2 r3 g0 e0 g_e l_a l_b l_c l_n m_x m_y m_d m_t m_v m_n r_s r_n r_w r_k e_v)) (w2 := (w_CE G c0 l0 l1 l2 l3 m0 m1 m2 m3 m4 m5 r0 r1 r2 r3 g0 e0 g_e l_a l_b l_c l_n m_x m_y m_d m_t m_v m_n r_s r_n r_w r_k e_v)) (va_runS (As := [.int (x6 >>> (4 &&& 31)), .int 19]) (rest := []) ⟨hx, hb, hml, hown, hts⟩ (kL_low (l := l) (G := G)   (x6 >>> (4 &&& 31)) 19 N u_26 hc_27 _) (va_cwS 2 hts gL_law_L_low rfl rfl rfl (by decide +kernel) ⟨Nat.le_of_ble_eq_true rfl, Nat.le_of_ble_eq_true rfl⟩) (wPreS hP hD hK [] rfl rfl) rfl rfl hl.1 rfl (lv_room (Nat.le_of_ble_eq_true rfl)) dL_law_489 ⟨by show _ ≤ 600130; omega, by show _ ≤ 7301080; omega⟩) hP hD hS hA [] [0, 1, 2, 3, 4, 5, 6, 7, 8, 9, 10, 11, 12, 13, 14, 15, 16] [0, 1, 2, 3, 4, 5, 6, 7, 8, 9, 10, 11, 12, 13, 14, 15, 16] rfl rfl rfl (by decide) rfl rfl (fun H locs hP hD hS => ?_)
    refine lv_bipush (v := 9) hx hb dL_law_492 (by decide) ?_
    refine lv_isub hx hb dL_law_494 ?_
    refine lv_istore (lv' := [(12, .int (u_26 - 9)), (0, .ref b), (1, .ref c0), (2, .ref e0), (3, .int x3), (4, .int x4), (5, .int x5), (6, .int x6), (7, .int x7), (10, .int x10), (11, .int x11)]) hx hb dL_law_495 hl (by decide) rfl (fun ls hl => ?_)
    refine lv_iload hx hb dL_law_497 (lv_at hl 8 rfl) ?_
    refine lv_bipush (v := 8) hx hb dL_law_499 (by decide) ?_
    refine lv_ishr hx hb dL_law_501 ?_
    refine lv_bipush (v := 19) hx hb dL_law_502 (by decide) ?_
    obtain ⟨u_28, hc_29, h⟩ := bd_inv h
    refine wafter_i (wr := (w_CE G c0 l0 l1 l2 l3 m0 m1 m2 m3 m4 m5 r0 r1 r2 r3 g0 e0 g_e l_a l_b l_c l_n m_x m_y m_d m_t m_v m_n r_s r_n r_w r_k e_v)) (w2 := (w_CE G c0 l0 l1 l2 l3 m0 m1 m2 m3 m4 m5 r0 r1 r2 r3 g0 e0 g_e l_a l_b l_c l_n m_x m_y m_d m_t m_v m_n r_s r_n r_w r_k e_v)) (va_runS (As := [.int (x7 >>> (8 &&& 31)), .int 19]) (rest := []) ⟨hx, hb, hml, hown, hts⟩ (kL_low (l := l) (G := G)   (x7 >>> (8 &&& 31)) 19 N u_28 hc_29 _) (va_cwS 2 hts gL_law_L_low rfl rfl rfl (by decide +kernel) ⟨Nat.le_of_ble_eq_true rfl, Nat.le_of_ble_eq_true rfl⟩) (wPreS hP hD hK [] rfl rfl) rfl rfl hl.1 rfl (lv_room (Nat.le_of_ble_eq_true rfl)) dL_law_504 ⟨by show _ ≤ 600130; omega, by show _ ≤ 7301080; omega⟩) hP hD hS hA [] [0, 1, 2, 3, 4, 5, 6, 7, 8, 9, 10, 11, 12, 13, 14, 15, 16] [0, 1, 2, 3, 4, 5, 6, 7, 8, 9, 10, 11, 12, 13, 14, 15, 16] rfl rfl rfl (by decide) rfl rfl (fun H locs hP hD hS => ?_)
    refine lv_bipush (v := 9) hx hb dL_law_507 (by decide) ?_
    refine lv_isub hx hb dL_law_509 ?_
    refine lv_istore (lv' := [(13, .int (u_28 - 9)), (12, .int (u_26 - 9)), (0, .ref b), (1, .ref c0), (2, .ref e0), (3, .int x3), (4, .int x4), (5, .int x5), (6, .int x6), (7, .int x7), (10, .int x10), (11, .int x11)]) hx hb dL_law_510 hl (by decide) rfl (fun ls hl => ?_)
    refine lv_iload hx hb dL_law_512 (lv_at hl 10 rfl) ?_
    refine lv_if_le (tgt := 564) hx hb dL_law_514 (by decide) (fun c_30 => ?_) (fun c_30 => ?_)
    · have h := ip c_30 h
      refine lv_iinc (v := (x5 + 1)) (lv' := [(5, .int (x5 + 1)), (13, .int (u_28 - 9)), (12, .int (u_26 - 9)), (0, .ref b), (1, .ref c0), (2, .ref e0), (3, .int x3), (4, .int x4), (6, .int x6), (7, .int x7), (10, .int x10), (11, .int x11)]) hx hb dL_law_564 hl (k := 7) rfl rfl (by decide) rfl (fun ls hl => ?_)
      refine lv_goto (tgt := 21) hx hb dL_law_567 (by decide) ?_
      refine W.widen (k := 30 + 8 * a + 8) (n := 2600 + 48 * a + 48) (by omega) (by omega) ?_
      exact hk_21 _ _ _ _ hP hD hS (lv_sub hl [3, 4, 5, 6, 7, 0] rfl) h
    · have h := iq c_30 h
      refine lv_iload hx hb dL_law_517 (lv_at hl 7 rfl) ?_
      refine lv_iconst (v := 4) hx hb dL_law_519 (by decide) ?_
      obtain ⟨hz, h⟩ := nz_inv h
      refine lv_irem hx hb dL_law_520 hz ?_
      refine lv_iconst (v := 2) hx hb dL_law_521 (by decide) ?_
      refine lv_icmp_ne (tgt := 564) hx hb dL_law_522 (by decide) (fun c_31 => ?_) (fun c_31 => ?_)
      · have h := iq c_31 h
        refine lv_iinc (v := (x5 + 1)) (lv' := [(5, .int (x5 + 1)), (13, .int (u_28 - 9)), (12, .int (u_26 - 9)), (0, .ref b), (1, .ref c0), (2, .ref e0), (3, .int x3), (4, .int x4), (6, .int x6), (7, .int x7), (10, .int x10), (11, .int x11)]) hx hb dL_law_564 hl (k := 7) rfl rfl (by decide) rfl (fun ls hl => ?_)
        refine lv_goto (tgt := 21) hx hb dL_law_567 (by decide) ?_
        refine W.widen (k := 30 + 8 * a + 8) (n := 2600 + 48 * a + 48) (by omega) (by omega) ?_
        exact hk_21 _ _ _ _ hP hD hS (lv_sub hl [3, 4, 5, 6, 7, 0] rfl) h
      · have h := ip c_31 h
        refine lv_aload_n hx hb dL_law_525 rfl (lv_at hl 3 rfl) ?_
        refine lv_iload hx hb dL_law_526 (lv_at hl 11 rfl) ?_
        refine lv_iload hx hb dL_law_528 (lv_at hl 8 rfl) ?_
        refine lv_bipush (v := 8) hx hb dL_law_530 (by decide) ?_
        refine lv_ishr hx hb dL_law_532 ?_
        refine lv_iload hx hb dL_law_533 (lv_at hl 10 rfl) ?_
        obtain ⟨u_32, hc_33, h⟩ := bd_inv h
        refine wafter_i (wr := (w_CE G c0 l0 l1 l2 l3 m0 m1 m2 m3 m4 m5 r0 r1 r2 r3 g0 e0 g_e l_a l_b l_c l_n m_x m_y m_d m_t m_v m_n r_s r_n r_w r_k e_v)) (w2 := (w_CE G c0 l0 l1 l2 l3 m0 m1 m2 m3 m4 m5 r0 r1 r2 r3 g0 e0 g_e l_a l_b l_c l_n m_x m_y m_d m_t m_v m_n r_s r_n r_w r_k e_v)) (va_runS (As := [.int (x6 >>> (8 &&& 31)), .int x10]) (rest := [.int x11, .ref c0]) ⟨hx, hb, hml, hown, hts⟩ (kL_low (l := l) (G := G)   (x6 >>> (8 &&& 31)) x10 N u_32 hc_33 _) (va_cwS 2 hts gL_law_L_low rfl rfl rfl (by decide +kernel) ⟨Nat.le_of_ble_eq_true rfl, Nat.le_of_ble_eq_true rfl⟩) (wPreS hP hD hK [] rfl rfl) rfl rfl hl.1 rfl (lv_room (Nat.le_of_ble_eq_true rfl)) dL_law_535 ⟨by show _ ≤ 600130; omega, by show _ ≤ 7301080; omega⟩) hP hD hS hA [] [0, 1, 2, 3, 4, 5, 6, 7, 8, 9, 10, 11, 12, 13, 14, 15, 16] [0, 1, 2, 3, 4, 5, 6, 7, 8, 9, 10, 11, 12, 13, 14, 15, 16] rfl rfl rfl (by decide) rfl rfl (fun H locs hP hD hS => ?_)
        refine lv_iload hx hb dL_law_538 (lv_at hl 1 rfl) ?_
        refine lv_if_ne (tgt := 552) hx hb dL_law_540 (by decide) (fun c_34 => ?_) (fun c_34 => ?_)
        · have h := iq c_34 h
          refine lv_iload hx hb dL_law_552 (lv_at hl 1 rfl) ?_
          refine W.widen (k := 30 + 8 * a + 8) (n := 2600 + 48 * a + 48) (by omega) (by omega) ?_
          refine w_554 a ha _ _ _ _ _ _ _ _ _ _ _ _ _ _ _ _ _ _ _ _ _ _ _ _ _ _ _ (fun x5_35 H locs ls hP hD hS hl h => ?_) hP hD hS (lv_sub hl [2, 3, 4, 5, 6, 7, 0] rfl) h
          refine W.widen (k := 30 + 8 * a + 8) (n := 2600 + 48 * a + 48) (by omega) (by omega) ?_
          exact hk_21 _ _ _ _ hP hD hS (lv_sub hl [0, 1, 2, 3, 4, 5] rfl) h
        · have h := ip c_34 h
          refine lv_iload hx hb dL_law_543 (lv_at hl 0 rfl) ?_
          refine lv_if_ne (tgt := 552) hx hb dL_law_545 (by decide) (fun c_36 => ?_) (fun c_36 => ?_)
          · have h := iq c_36 h
            refine lv_iload hx hb dL_law_552 (lv_at hl 1 rfl) ?_
            refine W.widen (k := 30 + 8 * a + 8) (n := 2600 + 48 * a + 48) (by omega) (by omega) ?_
            refine w_554 a ha _ _ _ _ _ _ _ _ _ _ _ _ _ _ _ _ _ _ _ _ _ _ _ _ _ _ _ (fun x5_37 H locs ls hP hD hS hl h => ?_) hP hD hS (lv_sub hl [2, 3, 4, 5, 6, 7, 0] rfl) h
            refine W.widen (k := 30 + 8 * a + 8) (n := 2600 + 48 * a + 48) (by omega) (by omega) ?_
            exact hk_21 _ _ _ _ hP hD hS (lv_sub hl [0, 1, 2, 3, 4, 5] rfl) h
          · have h := ip c_36 h
            refine lv_iconst (v := 1) hx hb dL_law_548 (by decide) ?_
            refine lv_goto (tgt := 554) hx hb dL_law_549 (by decide) ?_
            refine W.widen (k := 30 + 8 * a + 8) (n := 2600 + 48 * a + 48) (by omega) (by omega) ?_
            refine w_554 a ha _ _ _ _ _ _ _ _ _ _ _ _ _ _ _ _ _ _ _ _ _ _ _ _ _ _ _ (fun x5_38 H locs ls hP hD hS hl h => ?_) hP hD hS (lv_sub hl [2, 3, 4, 5, 6, 7, 0] rfl) h
            refine W.widen (k := 30 + 8 * a + 8) (n := 2600 + 48 * a + 48) (by omega) (by omega) ?_
            exact hk_21 _ _ _ _ hP hD hS (lv_sub hl [0, 1, 2, 3, 4, 5] rfl) h
  have w_456 : ∀ (a : Nat) (ha : a ≤ 24) (k_21 : Int32 → (Nat → Int32) → Option Unit) (x3 : Int32) (x4 : Int32) (x5 : Int32) (x6 : Int32) (x7 : Int32) (x9 : Int32) (x10 : Int32) (x11 : Int32) (g_e : Int64) (l_a : Nat → Int32) (l_b : Nat → Int32) (l_c : Nat → Int32) (l_n : Int32) (m_x : Nat → Int32) (m_y : Nat → Int32) (m_d : Nat → Int32) (m_t : Nat → Int32) (m_v : Nat → Int32) (m_n : Int32) (r_s : Nat → Int32) (r_n : Nat → Int32) (r_w : Nat → Int32) (r_k : Int32) (e_v : Nat → Int32)  (H : Heap) (locs : List Loc) (ls : Array Slot), (∀ (y5 : Int32) (yr_w : Nat → Int32) (H : Heap) (locs : List Loc) (ls : Array Slot), va_P G.1 vwCl (w_CE G c0 l0 l1 l2 l3 m0 m1 m2 m3 m4 m5 r0 r1 r2 r3 g0 e0 g_e l_a l_b l_c l_n m_x m_y m_d m_t m_v m_n r_s r_n yr_w r_k e_v) H → va_D A (w_CE G c0 l0 l1 l2 l3 m0 m1 m2 m3 m4 m5 r0 r1 r2 r3 g0 e0 g_e l_a l_b l_c l_n m_x m_y m_d m_t m_v m_n r_s r_n yr_w r_k e_v) → va_S A s.heap H locs → lv_has ls 14 [(0, .ref b), (1, .ref c0), (2, .ref e0), (3, .int x3), (4, .int x4), (5, .int y5)] → k_21 y5 yr_w = some v → W p l e room_1 s m #[Value.ref b] below meth c0v H locs (30 + 8 * a + 8) (2600 + 48 * a + 48) (lw_Z below #[Value.ref b] s) (F0 m 21 ls [])) → va_P G.1 vwCl (w_CE G c0 l0 l1 l2 l3 m0 m1 m2 m3 m4 m5 r0 r1 r2 r3 g0 e0 g_e l_a l_b l_c l_n m_x m_y m_d m_t m_v m_n r_s r_n r_w r_k e_v) H → va_D A (w_CE G c0 l0 l1 l2 l3 m0 m1 m2 m3 m4 m5 r0 r1 r2 r3 g0 e0 g_e l_a l_b l_c l_n m_x m_y m_d m_t m_v m_n r_s r_n r_w r_k e_v) → va_S A s.heap H locs → lv_has ls 14 [(0, .ref b), (1, .ref c0), (2, .ref e0), (3, .int x3), (4, .int x4), (5, .int x5), (6, .int x6), (7, .int x7), (9, .int x9), (10, .int x10), (11, .int x11)] → fL_law_b456 N L xs l_a l_b l_n m_x m_y m_d m_t m_v m_n r_s r_n r_k x6 x7 x9 x10 x11 x5 r_w k_21 = some v → W p l e room_1 s m #[Value.ref b] below meth c0v H locs (30 + 8 * a + 8) (2600 + 48 * a + 48) (lw_Z below #[Value.ref b] s) (F0 m 456 ls []) := by
    intro a ha k_21 x3 x4 x5 x6 x7 x9 x10 x11 g_e l_a l_b l_c l_n m_x m_y m_d m_t m_v m_n r_s r_n r_w r_k e_v H locs ls hk_21 hP hD hS hl h
    rw [fL_law_b456.eq_1] at h
    refine lv_iload hx hb dL_law_456 (lv_at hl 5 rfl) ?_
    refine lv_bipush (v := 6) hx hb dL_law_458 (by decide) ?_
    obtain ⟨hz, h⟩ := nz_inv h
    refine lv_irem hx hb dL_law_460 hz ?_
    refine lv_iconst (v := 5) hx hb dL_law_461 (by decide) ?_
    refine lv_icmp_ne (tgt := 483) hx hb dL_law_462 (by decide) (fun c_39 => ?_) (fun c_39 => ?_)
    · have h := iq c_39 h
      refine W.widen (k := 30 + 8 * a + 8) (n := 2600 + 48 * a + 48) (by omega) (by omega) ?_
      refine w_483 a ha _ _ _ _ _ _ _ _ _ _ _ _ _ _ _ _ _ _ _ _ _ _ _ _  _ _ _ (fun x5_40 H locs ls hP hD hS hl h => ?_) hP hD hS (lv_sub hl [0, 1, 2, 3, 4, 5, 6, 7, 9, 10] rfl) h
      refine W.widen (k := 30 + 8 * a + 8) (n := 2600 + 48 * a + 48) (by omega) (by omega) ?_
      exact hk_21 _ _ _ _ _ hP hD hS (lv_sub hl [0, 1, 2, 3, 4, 5] rfl) h
    · have h := ip c_39 h
      refine lv_aload_n hx hb dL_law_465 rfl (lv_at hl 1 rfl) ?_
      refine lv_iload hx hb dL_law_466 (lv_at hl 10 rfl) ?_
      refine lv_iload hx hb dL_law_468 (lv_at hl 6 rfl) ?_
      refine lv_iload hx hb dL_law_470 (lv_at hl 8 rfl) ?_
      obtain ⟨u_41, hc_42, h⟩ := bd_inv h
      refine wafter_i (wr := (w_CE G c0 l0 l1 l2 l3 m0 m1 m2 m3 m4 m5 r0 r1 r2 r3 g0 e0 g_e l_a l_b l_c l_n m_x m_y m_d m_t m_v m_n r_s r_n r_w r_k e_v)) (w2 := (w_CE G c0 l0 l1 l2 l3 m0 m1 m2 m3 m4 m5 r0 r1 r2 r3 g0 e0 g_e l_a l_b l_c l_n m_x m_y m_d m_t m_v m_n r_s r_n r_w r_k e_v)) (va_runS (As := [.int x6, .int x9]) (rest := [.int x11, .ref c0]) ⟨hx, hb, hml, hown, hts⟩ (kL_low (l := l) (G := G)   x6 x9 N u_41 hc_42 _) (va_cwS 2 hts gL_law_L_low rfl rfl rfl (by decide +kernel) ⟨Nat.le_of_ble_eq_true rfl, Nat.le_of_ble_eq_true rfl⟩) (wPreS hP hD hK [] rfl rfl) rfl rfl hl.1 rfl (lv_room (Nat.le_of_ble_eq_true rfl)) dL_law_472 ⟨by show _ ≤ 600130; omega, by show _ ≤ 7301080; omega⟩) hP hD hS hA [] [0, 1, 2, 3, 4, 5, 6, 7, 8, 9, 10, 11, 12, 13, 14, 15, 16] [0, 1, 2, 3, 4, 5, 6, 7, 8, 9, 10, 11, 12, 13, 14, 15, 16] rfl rfl rfl (by decide) rfl rfl (fun H locs hP hD hS => ?_)
      obtain ⟨u_43, hc_44, h⟩ := bd_inv h
      refine wafter_i (wr := [(e0, .inl (G.2.1, 36, .inl e_v))]) (w2 := (w_CE G c0 l0 l1 l2 l3 m0 m1 m2 m3 m4 m5 r0 r1 r2 r3 g0 e0 g_e l_a l_b l_c l_n m_x m_y m_d m_t m_v m_n r_s r_n u_43.2 r_k e_v)) (va_runS (As := [.ref c0, .int x11, .int u_41]) (rest := []) ⟨hx, hb, hml, hown, hts⟩ (kL_galleries (l := l) (G := G) c0 l0 l1 l2 l3 m0 m1 m2 m3 m4 m5 r0 r1 r2 r3 g0 g_e l_a l_b l_c l_n m_x m_y m_d m_t m_v m_n r_s r_n r_w r_k x11 u_41 N u_43 hc_44 _) (va_cwS 3 hts gL_law_L_galleries rfl rfl rfl (by decide +kernel) ⟨Nat.le_of_ble_eq_true rfl, Nat.le_of_ble_eq_true rfl⟩) (wPreS hP hD hK [0, 1, 2, 3, 4, 5, 6, 7, 8, 9, 10, 11, 12, 13, 14, 15] rfl rfl) rfl rfl hl.1 rfl (lv_room (Nat.le_of_ble_eq_true rfl)) dL_law_475 ⟨by show _ ≤ 600130; omega, by show _ ≤ 7301080; omega⟩) hP hD hS hA [0, 1, 2, 3, 4, 5, 6, 7, 8, 9, 10, 11, 12, 13, 14, 15] [16] [1, 2, 3, 4, 5, 6, 7, 8, 9, 10, 11, 12, 13, 14, 15, 16, 0] rfl rfl rfl (by decide) rfl rfl (fun H locs hP hD hS => ?_)
      refine lv_if_ne (tgt := 483) hx hb dL_law_478 (by decide) (fun c_45 => ?_) (fun c_45 => ?_)
      · have h := iq c_45 h
        refine W.widen (k := 30 + 8 * a + 8) (n := 2600 + 48 * a + 48) (by omega) (by omega) ?_
        refine w_483 a ha _ _ _ _ _ _ _ _ _ _ _ _ _ _ _ _ _ _ _ _ _ _ _ _  _ _ _ (fun x5_46 H locs ls hP hD hS hl h => ?_) hP hD hS (lv_sub hl [0, 1, 2, 3, 4, 5, 6, 7, 9, 10] rfl) h
        refine W.widen (k := 30 + 8 * a + 8) (n := 2600 + 48 * a + 48) (by omega) (by omega) ?_
        exact hk_21 _ _ _ _ _ hP hD hS (lv_sub hl [0, 1, 2, 3, 4, 5] rfl) h
      · have h := ip c_45 h
        refine lv_iconst (v := 0) hx hb dL_law_481 (by decide) ?_
        cases h
  have w_416 : ∀ (a : Nat) (ha : a ≤ 24) (k_21 : Int32 → (Nat → Int32) → Option Unit) (x3 : Int32) (x4 : Int32) (x5 : Int32) (x6 : Int32) (x7 : Int32) (g_e : Int64) (l_a : Nat → Int32) (l_b : Nat → Int32) (l_c : Nat → Int32) (l_n : Int32) (m_x : Nat → Int32) (m_y : Nat → Int32) (m_d : Nat → Int32) (m_t : Nat → Int32) (m_v : Nat → Int32) (m_n : Int32) (r_s : Nat → Int32) (r_n : Nat → Int32) (r_w : Nat → Int32) (r_k : Int32) (e_v : Nat → Int32)  (H : Heap) (locs : List Loc) (ls : Array Slot), (∀ (y5 : Int32) (yr_w : Nat → Int32) (H : Heap) (locs : List Loc) (ls : Array Slot), va_P G.1 vwCl (w_CE G c0 l0 l1 l2 l3 m0 m1 m2 m3 m4 m5 r0 r1 r2 r3 g0 e0 g_e l_a l_b l_c l_n m_x m_y m_d m_t m_v m_n r_s r_n yr_w r_k e_v) H → va_D A (w_CE G c0 l0 l1 l2 l3 m0 m1 m2 m3 m4 m5 r0 r1 r2 r3 g0 e0 g_e l_a l_b l_c l_n m_x m_y m_d m_t m_v m_n r_s r_n yr_w r_k e_v) → va_S A s.heap H locs → lv_has ls 14 [(0, .ref b), (1, .ref c0), (2, .ref e0), (3, .int x3), (4, .int x4), (5, .int y5)] → k_21 y5 yr_w = some v → W p l e room_1 s m #[Value.ref b] below meth c0v H locs (30 + 8 * a + 8) (2600 + 48 * a + 48) (lw_Z below #[Value.ref b] s) (F0 m 21 ls [])) → va_P G.1 vwCl (w_CE G c0 l0 l1 l2 l3 m0 m1 m2 m3 m4 m5 r0 r1 r2 r3 g0 e0 g_e l_a l_b l_c l_n m_x m_y m_d m_t m_v m_n r_s r_n r_w r_k e_v) H → va_D A (w_CE G c0 l0 l1 l2 l3 m0 m1 m2 m3 m4 m5 r0 r1 r2 r3 g0 e0 g_e l_a l_b l_c l_n m_x m_y m_d m_t m_v m_n r_s r_n r_w r_k e_v) → va_S A s.heap H locs → lv_has ls 14 [(0, .ref b), (1, .ref c0), (2, .ref e0), (3, .int x3), (4, .int x4), (5, .int x5), (6, .int x6), (7, .int x7)] → fL_law_b416 N L xs l_a l_b l_n m_x m_y m_d m_t m_v m_n r_s r_n r_k x6 x7 x5 r_w k_21 = some v → W p l e room_1 s m #[Value.ref b] below meth c0v H locs (30 + 8 * a + 8) (2600 + 48 * a + 48) (lw_Z below #[Value.ref b] s) (F0 m 416 ls []) := by
    intro a ha k_21 x3 x4 x5 x6 x7 g_e l_a l_b l_c l_n m_x m_y m_d m_t m_v m_n r_s r_n r_w r_k e_v H locs ls hk_21 hP hD hS hl h
    rw [fL_law_b416.eq_1] at h
    refine lv_aload_n hx hb dL_law_416 rfl (lv_at hl 1 rfl) ?_
    obtain ⟨u_47, hc_48, h⟩ := bd_inv h
    refine wafter_i (wr := [(e0, .inl (G.2.1, 36, .inl e_v))]) (w2 := (w_CE G c0 l0 l1 l2 l3 m0 m1 m2 m3 m4 m5 r0 r1 r2 r3 g0 e0 g_e l_a l_b l_c l_n m_x m_y m_d m_t m_v m_n r_s r_n r_w r_k e_v)) (va_runV (As := []) (rest := []) ⟨hx, hb, hml, hown, hts⟩ (kX4_rooms (l := l) (G := G) c0 l0 l1 l2 l3 m0 m1 m2 m3 m4 m5 r0 r1 r2 r3 g0 g_e l_a l_b l_c l_n m_x m_y m_d m_t m_v m_n r_s r_n r_w r_k  N u_47 hc_48 _) (cwV 0 hts gL_law_X4_rooms rfl rfl rfl (by decide +kernel) ⟨Nat.le_of_ble_eq_true rfl, Nat.le_of_ble_eq_true rfl⟩) (wPreV hP hD hK [0, 1, 2, 3, 4, 5, 6, 7, 8, 9, 10, 11, 12, 13, 14, 15] rfl rfl (ci := 4) (qb := 0) rfl rfl rfl) rfl rfl hl.1 rfl (lv_room (Nat.le_of_ble_eq_true rfl)) dL_law_417 ⟨by show _ ≤ 600130; omega, by show _ ≤ 7301080; omega⟩) hP hD hS hA [0, 1, 2, 3, 4, 5, 6, 7, 8, 9, 10, 11, 12, 13, 14, 15] [16] [1, 2, 3, 4, 5, 6, 7, 8, 9, 10, 11, 12, 13, 14, 15, 16, 0] rfl rfl rfl (by decide) rfl rfl (fun H locs hP hD hS => ?_)
    refine lv_istore (lv' := [(9, .int u_47), (0, .ref b), (1, .ref c0), (2, .ref e0), (3, .int x3), (4, .int x4), (5, .int x5), (6, .int x6), (7, .int x7)]) hx hb dL_law_420 hl (by decide) rfl (fun ls hl => ?_)
    refine lv_aload_n hx hb dL_law_422 rfl (lv_at hl 2 rfl) ?_
    obtain ⟨u_49, hc_50, h⟩ := bd_inv h
    refine wafter_i (wr := [(e0, .inl (G.2.1, 36, .inl e_v))]) (w2 := (w_CE G c0 l0 l1 l2 l3 m0 m1 m2 m3 m4 m5 r0 r1 r2 r3 g0 e0 g_e l_a l_b l_c l_n m_x m_y m_d m_t m_v m_n r_s r_n r_w r_k e_v)) (va_runV (As := []) (rest := []) ⟨hx, hb, hml, hown, hts⟩ (kX4_meets (l := l) (G := G) c0 l0 l1 l2 l3 m0 m1 m2 m3 m4 m5 r0 r1 r2 r3 g0 g_e l_a l_b l_c l_n m_x m_y m_d m_t m_v m_n r_s r_n r_w r_k  N u_49 hc_50 _) (cwV 0 hts gL_law_X4_meets rfl rfl rfl (by decide +kernel) ⟨Nat.le_of_ble_eq_true rfl, Nat.le_of_ble_eq_true rfl⟩) (wPreV hP hD hK [0, 1, 2, 3, 4, 5, 6, 7, 8, 9, 10, 11, 12, 13, 14, 15] rfl rfl (ci := 4) (qb := 0) rfl rfl rfl) rfl rfl hl.1 rfl (lv_room (Nat.le_of_ble_eq_true rfl)) dL_law_423 ⟨by show _ ≤ 600130; omega, by show _ ≤ 7301080; omega⟩) hP hD hS hA [0, 1, 2, 3, 4, 5, 6, 7, 8, 9, 10, 11, 12, 13, 14, 15] [16] [1, 2, 3, 4, 5, 6, 7, 8, 9, 10, 11, 12, 13, 14, 15, 16, 0] rfl rfl rfl (by decide) rfl rfl (fun H locs hP hD hS => ?_)
    refine lv_istore (lv' := [(10, .int u_49), (9, .int u_47), (0, .ref b), (1, .ref c0), (2, .ref e0), (3, .int x3), (4, .int x4), (5, .int x5), (6, .int x6), (7, .int x7)]) hx hb dL_law_426 hl (by decide) rfl (fun ls hl => ?_)
    refine lv_iload hx hb dL_law_428 (lv_at hl 9 rfl) ?_
    refine lv_iload hx hb dL_law_430 (lv_at hl 1 rfl) ?_
    obtain ⟨u_51, hc_52, h⟩ := bd_inv h
    refine wafter_i (wr := (w_CE G c0 l0 l1 l2 l3 m0 m1 m2 m3 m4 m5 r0 r1 r2 r3 g0 e0 g_e l_a l_b l_c l_n m_x m_y m_d m_t m_v m_n r_s r_n r_w r_k e_v)) (w2 := (w_CE G c0 l0 l1 l2 l3 m0 m1 m2 m3 m4 m5 r0 r1 r2 r3 g0 e0 g_e l_a l_b l_c l_n m_x m_y m_d m_t m_v m_n r_s r_n r_w r_k e_v)) (va_runS (As := [.int x7, .int u_47]) (rest := []) ⟨hx, hb, hml, hown, hts⟩ (kL_low (l := l) (G := G)   x7 u_47 N u_51 hc_52 _) (va_cwS 2 hts gL_law_L_low rfl rfl rfl (by decide +kernel) ⟨Nat.le_of_ble_eq_true rfl, Nat.le_of_ble_eq_true rfl⟩) (wPreS hP hD hK [] rfl rfl) rfl rfl hl.1 rfl (lv_room (Nat.le_of_ble_eq_true rfl)) dL_law_432 ⟨by show _ ≤ 600130; omega, by show _ ≤ 7301080; omega⟩) hP hD hS hA [] [0, 1, 2, 3, 4, 5, 6, 7, 8, 9, 10, 11, 12, 13, 14, 15, 16] [0, 1, 2, 3, 4, 5, 6, 7, 8, 9, 10, 11, 12, 13, 14, 15, 16] rfl rfl rfl (by decide) rfl rfl (fun H locs hP hD hS => ?_)
    refine lv_istore (lv' := [(11, .int u_51), (10, .int u_49), (9, .int u_47), (0, .ref b), (1, .ref c0), (2, .ref e0), (3, .int x3), (4, .int x4), (5, .int x5), (6, .int x6), (7, .int x7)]) hx hb dL_law_435 hl (by decide) rfl (fun ls hl => ?_)
    refine lv_iload hx hb dL_law_437 (lv_at hl 8 rfl) ?_
    refine lv_iconst (v := 2) hx hb dL_law_439 (by decide) ?_
    obtain ⟨hz, h⟩ := nz_inv h
    refine lv_irem hx hb dL_law_440 hz ?_
    refine lv_iconst (v := 1) hx hb dL_law_441 (by decide) ?_
    refine lv_icmp_ne (tgt := 456) hx hb dL_law_442 (by decide) (fun c_53 => ?_) (fun c_53 => ?_)
    · have h := iq c_53 h
      refine W.widen (k := 30 + 8 * a + 8) (n := 2600 + 48 * a + 48) (by omega) (by omega) ?_
      refine w_456 a ha _ _ _ _ _ _ _ _ _ _ _ _ _ _ _ _ _ _ _ _ _ _ _ _ _  _ _ _ (fun x5_54 r_w_55 H locs ls hP hD hS hl h => ?_) hP hD hS (lv_sub hl [3, 4, 5, 6, 7, 8, 9, 10, 2, 1, 0] rfl) h
      refine W.widen (k := 30 + 8 * a + 8) (n := 2600 + 48 * a + 48) (by omega) (by omega) ?_
      exact hk_21 _ _ _ _ _ hP hD hS (lv_sub hl [0, 1, 2, 3, 4, 5] rfl) h
    · have h := ip c_53 h
      refine lv_aload_n hx hb dL_law_445 rfl (lv_at hl 4 rfl) ?_
      refine lv_iload hx hb dL_law_446 (lv_at hl 0 rfl) ?_
      refine lv_iload hx hb dL_law_448 (lv_at hl 1 rfl) ?_
      obtain ⟨u_56, hc_57, h⟩ := bd_inv h
      refine wafter_i (wr := [(e0, .inl (G.2.1, 36, .inl e_v))]) (w2 := (w_CE G c0 l0 l1 l2 l3 m0 m1 m2 m3 m4 m5 r0 r1 r2 r3 g0 e0 g_e l_a l_b l_c l_n m_x m_y m_d m_t m_v m_n r_s r_n r_w r_k e_v)) (va_runS (As := [.ref c0, .int u_51, .int u_49]) (rest := []) ⟨hx, hb, hml, hown, hts⟩ (kL_rooms (l := l) (G := G) c0 l0 l1 l2 l3 m0 m1 m2 m3 m4 m5 r0 r1 r2 r3 g0 g_e l_a l_b l_c l_n m_x m_y m_d m_t m_v m_n r_s r_n r_w r_k u_51 u_49 N u_56 hc_57 _) (va_cwS 3 hts gL_law_L_rooms rfl rfl rfl (by decide +kernel) ⟨Nat.le_of_ble_eq_true rfl, Nat.le_of_ble_eq_true rfl⟩) (wPreS hP hD hK [0, 1, 2, 3, 4, 5, 6, 7, 8, 9, 10, 11, 12, 13, 14, 15] rfl rfl) rfl rfl hl.1 rfl (lv_room (Nat.le_of_ble_eq_true rfl)) dL_law_450 ⟨by show _ ≤ 600130; omega, by show _ ≤ 7301080; omega⟩) hP hD hS hA [0, 1, 2, 3, 4, 5, 6, 7, 8, 9, 10, 11, 12, 13, 14, 15] [16] [1, 2, 3, 4, 5, 6, 7, 8, 9, 10, 11, 12, 13, 14, 15, 16, 0] rfl rfl rfl (by decide) rfl rfl (fun H locs hP hD hS => ?_)
      refine lv_if_eq (tgt := 481) hx hb dL_law_453 (by decide) (fun c_58 => ?_) (fun c_58 => ?_)
      · have h := ip c_58 h
        refine lv_iconst (v := 0) hx hb dL_law_481 (by decide) ?_
        cases h
      · have h := iq c_58 h
        refine W.widen (k := 30 + 8 * a + 8) (n := 2600 + 48 * a + 48) (by omega) (by omega) ?_
        refine w_456 a ha _ _ _ _ _ _ _ _ _ _ _ _ _ _ _ _ _ _ _ _ _ _ _ _ _  _ _ _ (fun x5_59 r_w_60 H locs ls hP hD hS hl h => ?_) hP hD hS (lv_sub hl [3, 4, 5, 6, 7, 8, 9, 10, 2, 1, 0] rfl) h
        refine W.widen (k := 30 + 8 * a + 8) (n := 2600 + 48 * a + 48) (by omega) (by omega) ?_
        exact hk_21 _ _ _ _ _ hP hD hS (lv_sub hl [0, 1, 2, 3, 4, 5] rfl) h
  have w_374 : ∀ (a : Nat) (ha : a ≤ 24) (k_21 : Int32 → (Nat → Int32) → Option Unit) (x3 : Int32) (x4 : Int32) (x5 : Int32) (x6 : Int32) (x7 : Int32) (g_e : Int64) (l_a : Nat → Int32) (l_b : Nat → Int32) (l_c : Nat → Int32) (l_n : Int32) (m_x : Nat → Int32) (m_y : Nat → Int32) (m_d : Nat → Int32) (m_t : Nat → Int32) (m_v : Nat → Int32) (m_n : Int32) (r_s : Nat → Int32) (r_n : Nat → Int32) (r_w : Nat → Int32) (r_k : Int32) (e_v : Nat → Int32)  (H : Heap) (locs : List Loc) (ls : Array Slot), (∀ (y5 : Int32) (yr_w : Nat → Int32) (H : Heap) (locs : List Loc) (ls : Array Slot), va_P G.1 vwCl (w_CE G c0 l0 l1 l2 l3 m0 m1 m2 m3 m4 m5 r0 r1 r2 r3 g0 e0 g_e l_a l_b l_c l_n m_x m_y m_d m_t m_v m_n r_s r_n yr_w r_k e_v) H → va_D A (w_CE G c0 l0 l1 l2 l3 m0 m1 m2 m3 m4 m5 r0 r1 r2 r3 g0 e0 g_e l_a l_b l_c l_n m_x m_y m_d m_t m_v m_n r_s r_n yr_w r_k e_v) → va_S A s.heap H locs → lv_has ls 14 [(0, .ref b), (1, .ref c0), (2, .ref e0), (3, .int x3), (4, .int x4), (5, .int y5)] → k_21 y5 yr_w = some v → W p l e room_1 s m #[Value.ref b] below meth c0v H locs (30 + 8 * a + 8) (2600 + 48 * a + 48) (lw_Z below #[Value.ref b] s) (F0 m 21 ls [])) → va_P G.1 vwCl (w_CE G c0 l0 l1 l2 l3 m0 m1 m2 m3 m4 m5 r0 r1 r2 r3 g0 e0 g_e l_a l_b l_c l_n m_x m_y m_d m_t m_v m_n r_s r_n r_w r_k e_v) H → va_D A (w_CE G c0 l0 l1 l2 l3 m0 m1 m2 m3 m4 m5 r0 r1 r2 r3 g0 e0 g_e l_a l_b l_c l_n m_x m_y m_d m_t m_v m_n r_s r_n r_w r_k e_v) → va_S A s.heap H locs → lv_has ls 14 [(0, .ref b), (1, .ref c0), (2, .ref e0), (3, .int x3), (4, .int x4), (5, .int x5), (6, .int x6), (7, .int x7)] → fL_law_b374 N L xs g_e l_a l_b l_c l_n m_x m_y m_d m_t m_v m_n r_s r_n r_k x3 x4 x6 x7 x5 r_w k_21 = some v → W p l e room_1 s m #[Value.ref b] below meth c0v H locs (30 + 8 * a + 8) (2600 + 48 * a + 48) (lw_Z below #[Value.ref b] s) (F0 m 374 ls []) := by
    intro a ha k_21 x3 x4 x5 x6 x7 g_e l_a l_b l_c l_n m_x m_y m_d m_t m_v m_n r_s r_n r_w r_k e_v H locs ls hk_21 hP hD hS hl h
    rw [fL_law_b374.eq_1] at h
    refine lv_aload_n hx hb dL_law_374 rfl (lv_at hl 1 rfl) ?_
    refine lv_iload_n hx hb dL_law_375 rfl (lv_at hl 3 rfl) ?_
    obtain ⟨u_61, hc_62, h⟩ := bd_inv h
    refine wafter_i (wr := [(e0, .inl (G.2.1, 36, .inl e_v))]) (w2 := (w_CE G c0 l0 l1 l2 l3 m0 m1 m2 m3 m4 m5 r0 r1 r2 r3 g0 e0 g_e l_a l_b l_c l_n m_x m_y m_d m_t m_v m_n r_s r_n r_w r_k e_v)) (va_runS (As := [.ref c0, .int x3]) (rest := []) ⟨hx, hb, hml, hown, hts⟩ (kL_counts (l := l) (G := G) c0 l0 l1 l2 l3 m0 m1 m2 m3 m4 m5 r0 r1 r2 r3 g0 g_e l_a l_b l_c l_n m_x m_y m_d m_t m_v m_n r_s r_n r_w r_k x3 N u_61 hc_62 _) (va_cwS 2 hts gL_law_L_counts rfl rfl rfl (by decide +kernel) ⟨Nat.le_of_ble_eq_true rfl, Nat.le_of_ble_eq_true rfl⟩) (wPreS hP hD hK [0, 1, 2, 3, 4, 5, 6, 7, 8, 9, 10, 11, 12, 13, 14, 15] rfl rfl) rfl rfl hl.1 rfl (lv_room (Nat.le_of_ble_eq_true rfl)) dL_law_376 ⟨by show _ ≤ 600130; omega, by show _ ≤ 7301080; omega⟩) hP hD hS hA [0, 1, 2, 3, 4, 5, 6, 7, 8, 9, 10, 11, 12, 13, 14, 15] [16] [1, 2, 3, 4, 5, 6, 7, 8, 9, 10, 11, 12, 13, 14, 15, 16, 0] rfl rfl rfl (by decide) rfl rfl (fun H locs hP hD hS => ?_)
    refine lv_if_eq (tgt := 414) hx hb dL_law_379 (by decide) (fun c_63 => ?_) (fun c_63 => ?_)
    · have h := ip c_63 h
      refine lv_iconst (v := 0) hx hb dL_law_414 (by decide) ?_
      cases h
    · have h := iq c_63 h
      refine lv_iload hx hb dL_law_382 (lv_at hl 5 rfl) ?_
      refine lv_bipush (v := 8) hx hb dL_law_384 (by decide) ?_
      obtain ⟨hz, h⟩ := nz_inv h
      refine lv_irem hx hb dL_law_386 hz ?_
      refine lv_bipush (v := 7) hx hb dL_law_387 (by decide) ?_
      refine lv_icmp_ne (tgt := 416) hx hb dL_law_389 (by decide) (fun c_64 => ?_) (fun c_64 => ?_)
      · have h := iq c_64 h
        refine W.widen (k := 30 + 8 * a + 8) (n := 2600 + 48 * a + 48) (by omega) (by omega) ?_
        refine w_416 a ha _ _ _ _ _ _ _ _ _ _ _ _ _ _ _ _ _ _ _ _ _ _  _ _ _ (fun x5_65 r_w_66 H locs ls hP hD hS hl h => ?_) hP hD hS (lv_sub hl [0, 1, 2, 3, 4, 5, 6, 7] rfl) h
        refine W.widen (k := 30 + 8 * a + 8) (n := 2600 + 48 * a + 48) (by omega) (by omega) ?_
        exact hk_21 _ _ _ _ _ hP hD hS (lv_sub hl [0, 1, 2, 3, 4, 5] rfl) h
      · have h := ip c_64 h
        refine lv_aload_n hx hb dL_law_392 rfl (lv_at hl 1 rfl) ?_
        refine lv_iload_n hx hb dL_law_393 rfl (lv_at hl 3 rfl) ?_
        obtain ⟨u_67, hc_68, h⟩ := bd_inv h
        refine wafter_i (wr := [(e0, .inl (G.2.1, 36, .inl e_v))]) (w2 := (w_CE G c0 l0 l1 l2 l3 m0 m1 m2 m3 m4 m5 r0 r1 r2 r3 g0 e0 g_e l_a l_b l_c l_n m_x m_y m_d m_t m_v m_n r_s r_n r_w r_k e_v)) (va_runS (As := [.ref c0, .int x3]) (rest := []) ⟨hx, hb, hml, hown, hts⟩ (kL_mirrors (l := l) (G := G) c0 l0 l1 l2 l3 m0 m1 m2 m3 m4 m5 r0 r1 r2 r3 g0 g_e l_a l_b l_c l_n m_x m_y m_d m_t m_v m_n r_s r_n r_w r_k x3 N u_67 hc_68 _) (va_cwS 2 hts gL_law_L_mirrors rfl rfl rfl (by decide +kernel) ⟨Nat.le_of_ble_eq_true rfl, Nat.le_of_ble_eq_true rfl⟩) (wPreS hP hD hK [0, 1, 2, 3, 4, 5, 6, 7, 8, 9, 10, 11, 12, 13, 14, 15] rfl rfl) rfl rfl hl.1 rfl (lv_room (Nat.le_of_ble_eq_true rfl)) dL_law_394 ⟨by show _ ≤ 600130; omega, by show _ ≤ 7301080; omega⟩) hP hD hS hA [0, 1, 2, 3, 4, 5, 6, 7, 8, 9, 10, 11, 12, 13, 14, 15] [16] [1, 2, 3, 4, 5, 6, 7, 8, 9, 10, 11, 12, 13, 14, 15, 16, 0] rfl rfl rfl (by decide) rfl rfl (fun H locs hP hD hS => ?_)
        refine lv_if_eq (tgt := 414) hx hb dL_law_397 (by decide) (fun c_69 => ?_) (fun c_69 => ?_)
        · have h := ip c_69 h
          refine lv_iconst (v := 0) hx hb dL_law_414 (by decide) ?_
          cases h
        · have h := iq c_69 h
          refine lv_iload hx hb dL_law_400 (lv_at hl 4 rfl) ?_
          refine lv_bipush (v := 9) hx hb dL_law_402 (by decide) ?_
          refine lv_icmp_gt (tgt := 416) hx hb dL_law_404 (by decide) (fun c_70 => ?_) (fun c_70 => ?_)
          · have h := ip c_70 h
            refine W.widen (k := 30 + 8 * a + 8) (n := 2600 + 48 * a + 48) (by omega) (by omega) ?_
            refine w_416 a ha _ _ _ _ _ _ _ _ _ _ _ _ _ _ _ _ _ _ _ _ _ _  _ _ _ (fun x5_71 r_w_72 H locs ls hP hD hS hl h => ?_) hP hD hS (lv_sub hl [0, 1, 2, 3, 4, 5, 6, 7] rfl) h
            refine W.widen (k := 30 + 8 * a + 8) (n := 2600 + 48 * a + 48) (by omega) (by omega) ?_
            exact hk_21 _ _ _ _ _ hP hD hS (lv_sub hl [0, 1, 2, 3, 4, 5] rfl) h
          · have h := iq c_70 h
            refine lv_aload_n hx hb dL_law_407 rfl (lv_at hl 1 rfl) ?_
            obtain ⟨u_73, hc_74, h⟩ := bd_inv h
            refine wafter_i (wr := [(e0, .inl (G.2.1, 36, .inl e_v))]) (w2 := (w_CE G c0 l0 l1 l2 l3 m0 m1 m2 m3 m4 m5 r0 r1 r2 r3 g0 e0 g_e l_a l_b l_c l_n m_x m_y m_d m_t m_v m_n r_s r_n r_w r_k e_v)) (va_runS (As := [.ref c0]) (rest := []) ⟨hx, hb, hml, hown, hts⟩ (kL_graph (l := l) (G := G) c0 l0 l1 l2 l3 m0 m1 m2 m3 m4 m5 r0 r1 r2 r3 g0 g_e l_a l_b l_c l_n m_x m_y m_d m_t m_v m_n r_s r_n r_w r_k  N u_73 hc_74 _) (va_cwS 1 hts gL_law_L_graph rfl rfl rfl (by decide +kernel) ⟨Nat.le_of_ble_eq_true rfl, Nat.le_of_ble_eq_true rfl⟩) (wPreS hP hD hK [0, 1, 2, 3, 4, 5, 6, 7, 8, 9, 10, 11, 12, 13, 14, 15] rfl rfl) rfl rfl hl.1 rfl (lv_room (Nat.le_of_ble_eq_true rfl)) dL_law_408 ⟨by show _ ≤ 600130; omega, by show _ ≤ 7301080; omega⟩) hP hD hS hA [0, 1, 2, 3, 4, 5, 6, 7, 8, 9, 10, 11, 12, 13, 14, 15] [16] [1, 2, 3, 4, 5, 6, 7, 8, 9, 10, 11, 12, 13, 14, 15, 16, 0] rfl rfl rfl (by decide) rfl rfl (fun H locs hP hD hS => ?_)
            refine lv_if_ne (tgt := 416) hx hb dL_law_411 (by decide) (fun c_75 => ?_) (fun c_75 => ?_)
            · have h := iq c_75 h
              refine W.widen (k := 30 + 8 * a + 8) (n := 2600 + 48 * a + 48) (by omega) (by omega) ?_
              refine w_416 a ha _ _ _ _ _ _ _ _ _ _ _ _ _ _ _ _ _ _ _ _ _ _  _ _ _ (fun x5_76 r_w_77 H locs ls hP hD hS hl h => ?_) hP hD hS (lv_sub hl [0, 1, 2, 3, 4, 5, 6, 7] rfl) h
              refine W.widen (k := 30 + 8 * a + 8) (n := 2600 + 48 * a + 48) (by omega) (by omega) ?_
              exact hk_21 _ _ _ _ _ hP hD hS (lv_sub hl [0, 1, 2, 3, 4, 5] rfl) h
            · have h := ip c_75 h
              refine lv_iconst (v := 0) hx hb dL_law_414 (by decide) ?_
              cases h
  have w_223 : ∀ (a : Nat) (ha : a ≤ 24) (k_228 : Option Unit) (x3 : Int32) (x4 : Int32) (x5 : Int32) (x6 : Int32) (x7 : Int32) (x13 : Int32) (g_e : Int64) (l_a : Nat → Int32) (l_b : Nat → Int32) (l_c : Nat → Int32) (l_n : Int32) (m_x : Nat → Int32) (m_y : Nat → Int32) (m_d : Nat → Int32) (m_t : Nat → Int32) (m_v : Nat → Int32) (m_n : Int32) (r_s : Nat → Int32) (r_n : Nat → Int32) (r_w : Nat → Int32) (r_k : Int32) (e_v : Nat → Int32) (s0 : Int32) (s1 : Int32) (H : Heap) (locs : List Loc) (ls : Array Slot), (∀  (H : Heap) (locs : List Loc) (ls : Array Slot), va_P G.1 vwCl (w_CE G c0 l0 l1 l2 l3 m0 m1 m2 m3 m4 m5 r0 r1 r2 r3 g0 e0 g_e l_a l_b l_c l_n m_x m_y m_d m_t m_v m_n r_s r_n r_w r_k e_v) H → va_D A (w_CE G c0 l0 l1 l2 l3 m0 m1 m2 m3 m4 m5 r0 r1 r2 r3 g0 e0 g_e l_a l_b l_c l_n m_x m_y m_d m_t m_v m_n r_s r_n r_w r_k e_v) → va_S A s.heap H locs → lv_has ls 14 [(0, .ref b), (1, .ref c0), (2, .ref e0), (3, .int x3), (4, .int x4), (5, .int x5), (6, .int x6), (7, .int x7), (13, .int x13)] → k_228 = some v → W p l e room_1 s m #[Value.ref b] below meth c0v H locs (30 + 8 * a + 8) (2600 + 48 * a + 48) (lw_Z below #[Value.ref b] s) (F0 m 228 ls [])) → va_P G.1 vwCl (w_CE G c0 l0 l1 l2 l3 m0 m1 m2 m3 m4 m5 r0 r1 r2 r3 g0 e0 g_e l_a l_b l_c l_n m_x m_y m_d m_t m_v m_n r_s r_n r_w r_k e_v) H → va_D A (w_CE G c0 l0 l1 l2 l3 m0 m1 m2 m3 m4 m5 r0 r1 r2 r3 g0 e0 g_e l_a l_b l_c l_n m_x m_y m_d m_t m_v m_n r_s r_n r_w r_k e_v) → va_S A s.heap H locs → lv_has ls 14 [(0, .ref b), (1, .ref c0), (2, .ref e0), (3, .int x3), (4, .int x4), (5, .int x5), (6, .int x6), (7, .int x7), (13, .int x13)] → fL_law_b223 N L xs s0 s1 k_228 = some v → W p l e room_1 s m #[Value.ref b] below meth c0v H locs (30 + 8 * a + 4) (2600 + 48 * a + 24) (lw_Z below #[Value.ref b] s) (F0 m 223 ls [.int s1, .int s0]) := by
    intro a ha k_228 x3 x4 x5 x6 x7 x13 g_e l_a l_b l_c l_n m_x m_y m_d m_t m_v m_n r_s r_n r_w r_k e_v s0 s1 H locs ls hk_228 hP hD hS hl h
    rw [fL_law_b223.eq_1] at h
    refine lv_icmp_eq (tgt := 228) hx hb dL_law_223 (by decide) (fun c_78 => ?_) (fun c_78 => ?_)
    · have h := ip c_78 h
      refine W.widen (k := 30 + 8 * a + 8) (n := 2600 + 48 * a + 48) (by omega) (by omega) ?_
      exact hk_228  _ _ _ hP hD hS (lv_sub hl [0, 1, 2, 3, 4, 5, 6, 7, 8] rfl) h
    · have h := iq c_78 h
      refine lv_iconst (v := 0) hx hb dL_law_226 (by decide) ?_
      cases h
  have w_208 : ∀ (a : Nat) (ha : a ≤ 24) (k_228 : Option Unit) (x3 : Int32) (x4 : Int32) (x5 : Int32) (x6 : Int32) (x7 : Int32) (x10 : Int32) (x11 : Int32) (x13 : Int32) (g_e : Int64) (l_a : Nat → Int32) (l_b : Nat → Int32) (l_c : Nat → Int32) (l_n : Int32) (m_x : Nat → Int32) (m_y : Nat → Int32) (m_d : Nat → Int32) (m_t : Nat → Int32) (m_v : Nat → Int32) (m_n : Int32) (r_s : Nat → Int32) (r_n : Nat → Int32) (r_w : Nat → Int32) (r_k : Int32) (e_v : Nat → Int32) (s0 : Int32) (H : Heap) (locs : List Loc) (ls : Array Slot), (∀  (H : Heap) (locs : List Loc) (ls : Array Slot), va_P G.1 vwCl (w_CE G c0 l0 l1 l2 l3 m0 m1 m2 m3 m4 m5 r0 r1 r2 r3 g0 e0 g_e l_a l_b l_c l_n m_x m_y m_d m_t m_v m_n r_s r_n r_w r_k e_v) H → va_D A (w_CE G c0 l0 l1 l2 l3 m0 m1 m2 m3 m4 m5 r0 r1 r2 r3 g0 e0 g_e l_a l_b l_c l_n m_x m_y m_d m_t m_v m_n r_s r_n r_w r_k e_v) → va_S A s.heap H locs → lv_has ls 14 [(0, .ref b), (1, .ref c0), (2, .ref e0), (3, .int x3), (4, .int x4), (5, .int x5), (6, .int x6), (7, .int x7), (13, .int x13)] → k_228 = some v → W p l e room_1 s m #[Value.ref b] below meth c0v H locs (30 + 8 * a + 8) (2600 + 48 * a + 48) (lw_Z below #[Value.ref b] s) (F0 m 228 ls [])) → va_P G.1 vwCl (w_CE G c0 l0 l1 l2 l3 m0 m1 m2 m3 m4 m5 r0 r1 r2 r3 g0 e0 g_e l_a l_b l_c l_n m_x m_y m_d m_t m_v m_n r_s r_n r_w r_k e_v) H → va_D A (w_CE G c0 l0 l1 l2 l3 m0 m1 m2 m3 m4 m5 r0 r1 r2 r3 g0 e0 g_e l_a l_b l_c l_n m_x m_y m_d m_t m_v m_n r_s r_n r_w r_k e_v) → va_S A s.heap H locs → lv_has ls 14 [(0, .ref b), (1, .ref c0), (2, .ref e0), (3, .int x3), (4, .int x4), (5, .int x5), (6, .int x6), (7, .int x7), (10, .int x10), (11, .int x11), (13, .int x13)] → fL_law_b208 N L xs x10 x11 s0 k_228 = some v → W p l e room_1 s m #[Value.ref b] below meth c0v H locs (30 + 8 * a + 4) (2600 + 48 * a + 24) (lw_Z below #[Value.ref b] s) (F0 m 208 ls [.int s0]) := by
    intro a ha k_228 x3 x4 x5 x6 x7 x10 x11 x13 g_e l_a l_b l_c l_n m_x m_y m_d m_t m_v m_n r_s r_n r_w r_k e_v s0 H locs ls hk_228 hP hD hS hl h
    rw [fL_law_b208.eq_1] at h
    refine lv_iload hx hb dL_law_208 (lv_at hl 8 rfl) ?_
    refine lv_if_ne (tgt := 222) hx hb dL_law_210 (by decide) (fun c_79 => ?_) (fun c_79 => ?_)
    · have h := iq c_79 h
      refine lv_iconst (v := 0) hx hb dL_law_222 (by decide) ?_
      refine W.widen (k := 30 + 8 * a + 4) (n := 2600 + 48 * a + 24) (by omega) (by omega) ?_
      refine w_223 a ha _ _ _ _ _ _ _ _ _ _ _ _ _ _ _ _ _ _ _ _ _ _ _ _ _ _ _ _ (fun  H locs ls hP hD hS hl h => ?_) hP hD hS (lv_sub hl [0, 1, 2, 3, 4, 5, 6, 7, 10] rfl) h
      refine W.widen (k := 30 + 8 * a + 8) (n := 2600 + 48 * a + 48) (by omega) (by omega) ?_
      exact hk_228  _ _ _ hP hD hS (lv_sub hl [0, 1, 2, 3, 4, 5, 6, 7, 8] rfl) h
    · have h := ip c_79 h
      refine lv_iload hx hb dL_law_213 (lv_at hl 9 rfl) ?_
      refine lv_if_ne (tgt := 222) hx hb dL_law_215 (by decide) (fun c_80 => ?_) (fun c_80 => ?_)
      · have h := iq c_80 h
        refine lv_iconst (v := 0) hx hb dL_law_222 (by decide) ?_
        refine W.widen (k := 30 + 8 * a + 4) (n := 2600 + 48 * a + 24) (by omega) (by omega) ?_
        refine w_223 a ha _ _ _ _ _ _ _ _ _ _ _ _ _ _ _ _ _ _ _ _ _ _ _ _ _ _ _ _ (fun  H locs ls hP hD hS hl h => ?_) hP hD hS (lv_sub hl [0, 1, 2, 3, 4, 5, 6, 7, 10] rfl) h
        refine W.widen (k := 30 + 8 * a + 8) (n := 2600 + 48 * a + 48) (by omega) (by omega) ?_
        exact hk_228  _ _ _ hP hD hS (lv_sub hl [0, 1, 2, 3, 4, 5, 6, 7, 8] rfl) h
      · have h := ip c_80 h
        refine lv_iconst (v := 1) hx hb dL_law_218 (by decide) ?_
        refine lv_goto (tgt := 223) hx hb dL_law_219 (by decide) ?_
        refine W.widen (k := 30 + 8 * a + 4) (n := 2600 + 48 * a + 24) (by omega) (by omega) ?_
        refine w_223 a ha _ _ _ _ _ _ _ _ _ _ _ _ _ _ _ _ _ _ _ _ _ _ _ _ _ _ _ _ (fun  H locs ls hP hD hS hl h => ?_) hP hD hS (lv_sub hl [0, 1, 2, 3, 4, 5, 6, 7, 10] rfl) h
        refine W.widen (k := 30 + 8 * a + 8) (n := 2600 + 48 * a + 48) (by omega) (by omega) ?_
        exact hk_228  _ _ _ hP hD hS (lv_sub hl [0, 1, 2, 3, 4, 5, 6, 7, 8] rfl) h
  have w_228 : ∀ (a : Nat) (ha : a ≤ 24) (k_374 : Int32 → Option Unit) (x3 : Int32) (x4 : Int32) (x5 : Int32) (x6 : Int32) (x7 : Int32) (x13 : Int32) (g_e : Int64) (l_a : Nat → Int32) (l_b : Nat → Int32) (l_c : Nat → Int32) (l_n : Int32) (m_x : Nat → Int32) (m_y : Nat → Int32) (m_d : Nat → Int32) (m_t : Nat → Int32) (m_v : Nat → Int32) (m_n : Int32) (r_s : Nat → Int32) (r_n : Nat → Int32) (r_w : Nat → Int32) (r_k : Int32) (e_v : Nat → Int32)  (H : Heap) (locs : List Loc) (ls : Array Slot), (∀ (y3 : Int32) (H : Heap) (locs : List Loc) (ls : Array Slot), va_P G.1 vwCl (w_CE G c0 l0 l1 l2 l3 m0 m1 m2 m3 m4 m5 r0 r1 r2 r3 g0 e0 g_e l_a l_b l_c l_n m_x m_y m_d m_t m_v m_n r_s r_n r_w r_k e_v) H → va_D A (w_CE G c0 l0 l1 l2 l3 m0 m1 m2 m3 m4 m5 r0 r1 r2 r3 g0 e0 g_e l_a l_b l_c l_n m_x m_y m_d m_t m_v m_n r_s r_n r_w r_k e_v) → va_S A s.heap H locs → lv_has ls 14 [(0, .ref b), (1, .ref c0), (2, .ref e0), (3, .int y3), (4, .int x4), (5, .int x5), (6, .int x6), (7, .int x7)] → k_374 y3 = some v → W p l e room_1 s m #[Value.ref b] below meth c0v H locs (30 + 8 * a + 8) (2600 + 48 * a + 48) (lw_Z below #[Value.ref b] s) (F0 m 374 ls [])) → va_P G.1 vwCl (w_CE G c0 l0 l1 l2 l3 m0 m1 m2 m3 m4 m5 r0 r1 r2 r3 g0 e0 g_e l_a l_b l_c l_n m_x m_y m_d m_t m_v m_n r_s r_n r_w r_k e_v) H → va_D A (w_CE G c0 l0 l1 l2 l3 m0 m1 m2 m3 m4 m5 r0 r1 r2 r3 g0 e0 g_e l_a l_b l_c l_n m_x m_y m_d m_t m_v m_n r_s r_n r_w r_k e_v) → va_S A s.heap H locs → lv_has ls 14 [(0, .ref b), (1, .ref c0), (2, .ref e0), (3, .int x3), (4, .int x4), (5, .int x5), (6, .int x6), (7, .int x7), (13, .int x13)] → fL_law_b228 N L xs x13 x3 k_374 = some v → W p l e room_1 s m #[Value.ref b] below meth c0v H locs (30 + 8 * a + 8) (2600 + 48 * a + 48) (lw_Z below #[Value.ref b] s) (F0 m 228 ls []) := by
    intro a ha k_374 x3 x4 x5 x6 x7 x13 g_e l_a l_b l_c l_n m_x m_y m_d m_t m_v m_n r_s r_n r_w r_k e_v H locs ls hk_374 hP hD hS hl h
    rw [fL_law_b228.eq_1] at h
    refine lv_iload_n hx hb dL_law_228 rfl (lv_at hl 3 rfl) ?_
    refine lv_iload hx hb dL_law_229 (lv_at hl 8 rfl) ?_
    refine lv_if_lt (tgt := 238) hx hb dL_law_231 (by decide) (fun c_81 => ?_) (fun c_81 => ?_)
    · have h := ip c_81 h
      refine lv_iconst (v := 0) hx hb dL_law_238 (by decide) ?_
      refine lv_iadd hx hb dL_law_239 ?_
      refine lv_istore_n (lv' := [(3, .int (x3 + 0)), (0, .ref b), (1, .ref c0), (2, .ref e0), (4, .int x4), (5, .int x5), (6, .int x6), (7, .int x7), (13, .int x13)]) hx hb dL_law_240 rfl hl (by decide) rfl (fun ls hl => ?_)
      refine lv_goto (tgt := 374) hx hb dL_law_241 (by decide) ?_
      refine W.widen (k := 30 + 8 * a + 8) (n := 2600 + 48 * a + 48) (by omega) (by omega) ?_
      exact hk_374 _ _ _ _ hP hD hS (lv_sub hl [1, 2, 3, 0, 4, 5, 6, 7] rfl) h
    · have h := iq c_81 h
      refine lv_iconst (v := 1) hx hb dL_law_234 (by decide) ?_
      refine lv_goto (tgt := 239) hx hb dL_law_235 (by decide) ?_
      refine lv_iadd hx hb dL_law_239 ?_
      refine lv_istore_n (lv' := [(3, .int (x3 + 1)), (0, .ref b), (1, .ref c0), (2, .ref e0), (4, .int x4), (5, .int x5), (6, .int x6), (7, .int x7), (13, .int x13)]) hx hb dL_law_240 rfl hl (by decide) rfl (fun ls hl => ?_)
      refine lv_goto (tgt := 374) hx hb dL_law_241 (by decide) ?_
      refine W.widen (k := 30 + 8 * a + 8) (n := 2600 + 48 * a + 48) (by omega) (by omega) ?_
      exact hk_374 _ _ _ _ hP hD hS (lv_sub hl [1, 2, 3, 0, 4, 5, 6, 7] rfl) h
  have w_96 : ∀ (a : Nat) (ha : a ≤ 24) (k_374 : Int32 → (Nat → Int32) → (Nat → Int32) → (Nat → Int32) → Int32 → (Nat → Int32) → (Nat → Int32) → (Nat → Int32) → (Nat → Int32) → (Nat → Int32) → Int32 → (Nat → Int32) → (Nat → Int32) → Int32 → Option Unit) (x3 : Int32) (x4 : Int32) (x5 : Int32) (x6 : Int32) (x7 : Int32) (g_e : Int64) (l_a : Nat → Int32) (l_b : Nat → Int32) (l_c : Nat → Int32) (l_n : Int32) (m_x : Nat → Int32) (m_y : Nat → Int32) (m_d : Nat → Int32) (m_t : Nat → Int32) (m_v : Nat → Int32) (m_n : Int32) (r_s : Nat → Int32) (r_n : Nat → Int32) (r_w : Nat → Int32) (r_k : Int32) (e_v : Nat → Int32) (s0 : Int32) (H : Heap) (locs : List Loc) (ls : Array Slot), (∀ (y3 : Int32) (yl_a : Nat → Int32) (yl_b : Nat → Int32) (yl_c : Nat → Int32) (yl_n : Int32) (ym_x : Nat → Int32) (ym_y : Nat → Int32) (ym_d : Nat → Int32) (ym_t : Nat → Int32) (ym_v : Nat → Int32) (ym_n : Int32) (yr_s : Nat → Int32) (yr_n : Nat → Int32) (yr_k : Int32) (H : Heap) (locs : List Loc) (ls : Array Slot), va_P G.1 vwCl (w_CE G c0 l0 l1 l2 l3 m0 m1 m2 m3 m4 m5 r0 r1 r2 r3 g0 e0 g_e yl_a yl_b yl_c yl_n ym_x ym_y ym_d ym_t ym_v ym_n yr_s yr_n r_w yr_k e_v) H → va_D A (w_CE G c0 l0 l1 l2 l3 m0 m1 m2 m3 m4 m5 r0 r1 r2 r3 g0 e0 g_e yl_a yl_b yl_c yl_n ym_x ym_y ym_d ym_t ym_v ym_n yr_s yr_n r_w yr_k e_v) → va_S A s.heap H locs → lv_has ls 14 [(0, .ref b), (1, .ref c0), (2, .ref e0), (3, .int y3), (4, .int x4), (5, .int x5), (6, .int x6), (7, .int x7)] → k_374 y3 yl_a yl_b yl_c yl_n ym_x ym_y ym_d ym_t ym_v ym_n yr_s yr_n yr_k = some v → W p l e room_1 s m #[Value.ref b] below meth c0v H locs (30 + 8 * a + 8) (2600 + 48 * a + 48) (lw_Z below #[Value.ref b] s) (F0 m 374 ls [])) → va_P G.1 vwCl (w_CE G c0 l0 l1 l2 l3 m0 m1 m2 m3 m4 m5 r0 r1 r2 r3 g0 e0 g_e l_a l_b l_c l_n m_x m_y m_d m_t m_v m_n r_s r_n r_w r_k e_v) H → va_D A (w_CE G c0 l0 l1 l2 l3 m0 m1 m2 m3 m4 m5 r0 r1 r2 r3 g0 e0 g_e l_a l_b l_c l_n m_x m_y m_d m_t m_v m_n r_s r_n r_w r_k e_v) → va_S A s.heap H locs → lv_has ls 14 [(0, .ref b), (1, .ref c0), (2, .ref e0), (3, .int x3), (4, .int x4), (5, .int x5), (6, .int x6), (7, .int x7)] → fL_law_b96 N L xs x6 x3 l_a l_b l_c l_n m_x m_y m_d m_t m_v m_n r_s r_n r_k s0 k_374 = some v → W p l e room_1 s m #[Value.ref b] below meth c0v H locs (30 + 8 * a + 0) (2600 + 48 * a + 0) (lw_Z below #[Value.ref b] s) (F0 m 96 ls [.int s0]) := by
    intro a ha k_374 x3 x4 x5 x6 x7 g_e l_a l_b l_c l_n m_x m_y m_d m_t m_v m_n r_s r_n r_w r_k e_v s0 H locs ls hk_374 hP hD hS hl h
    rw [fL_law_b96.eq_1] at h
    refine lv_istore (lv' := [(9, .int s0), (0, .ref b), (1, .ref c0), (2, .ref e0), (3, .int x3), (4, .int x4), (5, .int x5), (6, .int x6), (7, .int x7)]) hx hb dL_law_96 hl (by decide) rfl (fun ls hl => ?_)
    refine lv_iload hx hb dL_law_98 (lv_at hl 7 rfl) ?_
    refine lv_iconst (v := 2) hx hb dL_law_100 (by decide) ?_
    refine lv_iload hx hb dL_law_101 (lv_at hl 0 rfl) ?_
    refine lv_imul hx hb dL_law_103 ?_
    refine lv_iconst (v := 1) hx hb dL_law_104 (by decide) ?_
    refine lv_iadd hx hb dL_law_105 ?_
    obtain ⟨u_82, hc_83, h⟩ := bd_inv h
    refine wafter_i (wr := (w_CE G c0 l0 l1 l2 l3 m0 m1 m2 m3 m4 m5 r0 r1 r2 r3 g0 e0 g_e l_a l_b l_c l_n m_x m_y m_d m_t m_v m_n r_s r_n r_w r_k e_v)) (w2 := (w_CE G c0 l0 l1 l2 l3 m0 m1 m2 m3 m4 m5 r0 r1 r2 r3 g0 e0 g_e l_a l_b l_c l_n m_x m_y m_d m_t m_v m_n r_s r_n r_w r_k e_v)) (va_runS (As := [.int x6, .int ((2 * s0) + 1)]) (rest := []) ⟨hx, hb, hml, hown, hts⟩ (kL_low (l := l) (G := G)   x6 ((2 * s0) + 1) N u_82 hc_83 _) (va_cwS 2 hts gL_law_L_low rfl rfl rfl (by decide +kernel) ⟨Nat.le_of_ble_eq_true rfl, Nat.le_of_ble_eq_true rfl⟩) (wPreS hP hD hK [] rfl rfl) rfl rfl hl.1 rfl (lv_room (Nat.le_of_ble_eq_true rfl)) dL_law_106 ⟨by show _ ≤ 600130; omega, by show _ ≤ 7301080; omega⟩) hP hD hS hA [] [0, 1, 2, 3, 4, 5, 6, 7, 8, 9, 10, 11, 12, 13, 14, 15, 16] [0, 1, 2, 3, 4, 5, 6, 7, 8, 9, 10, 11, 12, 13, 14, 15, 16] rfl rfl rfl (by decide) rfl rfl (fun H locs hP hD hS => ?_)
    refine lv_iload hx hb dL_law_109 (lv_at hl 0 rfl) ?_
    refine lv_isub hx hb dL_law_111 ?_
    refine lv_istore (lv' := [(10, .int (u_82 - s0)), (9, .int s0), (0, .ref b), (1, .ref c0), (2, .ref e0), (3, .int x3), (4, .int x4), (5, .int x5), (6, .int x6), (7, .int x7)]) hx hb dL_law_112 hl (by decide) rfl (fun ls hl => ?_)
    refine lv_iload hx hb dL_law_114 (lv_at hl 8 rfl) ?_
    refine lv_iconst (v := 5) hx hb dL_law_116 (by decide) ?_
    refine lv_ishr hx hb dL_law_117 ?_
    refine lv_iconst (v := 2) hx hb dL_law_118 (by decide) ?_
    refine lv_iload hx hb dL_law_119 (lv_at hl 1 rfl) ?_
    refine lv_imul hx hb dL_law_121 ?_
    refine lv_iconst (v := 1) hx hb dL_law_122 (by decide) ?_
    refine lv_iadd hx hb dL_law_123 ?_
    obtain ⟨u_84, hc_85, h⟩ := bd_inv h
    refine wafter_i (wr := (w_CE G c0 l0 l1 l2 l3 m0 m1 m2 m3 m4 m5 r0 r1 r2 r3 g0 e0 g_e l_a l_b l_c l_n m_x m_y m_d m_t m_v m_n r_s r_n r_w r_k e_v)) (w2 := (w_CE G c0 l0 l1 l2 l3 m0 m1 m2 m3 m4 m5 r0 r1 r2 r3 g0 e0 g_e l_a l_b l_c l_n m_x m_y m_d m_t m_v m_n r_s r_n r_w r_k e_v)) (va_runS (As := [.int (x6 >>> (5 &&& 31)), .int ((2 * s0) + 1)]) (rest := []) ⟨hx, hb, hml, hown, hts⟩ (kL_low (l := l) (G := G)   (x6 >>> (5 &&& 31)) ((2 * s0) + 1) N u_84 hc_85 _) (va_cwS 2 hts gL_law_L_low rfl rfl rfl (by decide +kernel) ⟨Nat.le_of_ble_eq_true rfl, Nat.le_of_ble_eq_true rfl⟩) (wPreS hP hD hK [] rfl rfl) rfl rfl hl.1 rfl (lv_room (Nat.le_of_ble_eq_true rfl)) dL_law_124 ⟨by show _ ≤ 600130; omega, by show _ ≤ 7301080; omega⟩) hP hD hS hA [] [0, 1, 2, 3, 4, 5, 6, 7, 8, 9, 10, 11, 12, 13, 14, 15, 16] [0, 1, 2, 3, 4, 5, 6, 7, 8, 9, 10, 11, 12, 13, 14, 15, 16] rfl rfl rfl (by decide) rfl rfl (fun H locs hP hD hS => ?_)
    refine lv_iload hx hb dL_law_127 (lv_at hl 1 rfl) ?_
    refine lv_isub hx hb dL_law_129 ?_
    refine lv_istore (lv' := [(11, .int (u_84 - s0)), (10, .int (u_82 - s0)), (9, .int s0), (0, .ref b), (1, .ref c0), (2, .ref e0), (3, .int x3), (4, .int x4), (5, .int x5), (6, .int x6), (7, .int x7)]) hx hb dL_law_130 hl (by decide) rfl (fun ls hl => ?_)
    refine lv_iload hx hb dL_law_132 (lv_at hl 9 rfl) ?_
    refine lv_bipush (v := 10) hx hb dL_law_134 (by decide) ?_
    refine lv_ishr hx hb dL_law_136 ?_
    refine lv_iconst (v := 2) hx hb dL_law_137 (by decide) ?_
    refine lv_iload hx hb dL_law_138 (lv_at hl 2 rfl) ?_
    refine lv_imul hx hb dL_law_140 ?_
    refine lv_iconst (v := 1) hx hb dL_law_141 (by decide) ?_
    refine lv_iadd hx hb dL_law_142 ?_
    obtain ⟨u_86, hc_87, h⟩ := bd_inv h
    refine wafter_i (wr := (w_CE G c0 l0 l1 l2 l3 m0 m1 m2 m3 m4 m5 r0 r1 r2 r3 g0 e0 g_e l_a l_b l_c l_n m_x m_y m_d m_t m_v m_n r_s r_n r_w r_k e_v)) (w2 := (w_CE G c0 l0 l1 l2 l3 m0 m1 m2 m3 m4 m5 r0 r1 r2 r3 g0 e0 g_e l_a l_b l_c l_n m_x m_y m_d m_t m_v m_n r_s r_n r_w r_k e_v)) (va_runS (As := [.int (x6 >>> (10 &&& 31)), .int ((2 * s0) + 1)]) (rest := []) ⟨hx, hb, hml, hown, hts⟩ (kL_low (l := l) (G := G)   (x6 >>> (10 &&& 31)) ((2 * s0) + 1) N u_86 hc_87 _) (va_cwS 2 hts gL_law_L_low rfl rfl rfl (by decide +kernel) ⟨Nat.le_of_ble_eq_true rfl, Nat.le_of_ble_eq_true rfl⟩) (wPreS hP hD hK [] rfl rfl) rfl rfl hl.1 rfl (lv_room (Nat.le_of_ble_eq_true rfl)) dL_law_143 ⟨by show _ ≤ 600130; omega, by show _ ≤ 7301080; omega⟩) hP hD hS hA [] [0, 1, 2, 3, 4, 5, 6, 7, 8, 9, 10, 11, 12, 13, 14, 15, 16] [0, 1, 2, 3, 4, 5, 6, 7, 8, 9, 10, 11, 12, 13, 14, 15, 16] rfl rfl rfl (by decide) rfl rfl (fun H locs hP hD hS => ?_)
    refine lv_iload hx hb dL_law_146 (lv_at hl 2 rfl) ?_
    refine lv_isub hx hb dL_law_148 ?_
    refine lv_istore (lv' := [(12, .int (u_86 - s0)), (11, .int (u_84 - s0)), (10, .int (u_82 - s0)), (9, .int s0), (0, .ref b), (1, .ref c0), (2, .ref e0), (3, .int x3), (4, .int x4), (5, .int x5), (6, .int x6), (7, .int x7)]) hx hb dL_law_149 hl (by decide) rfl (fun ls hl => ?_)
    refine lv_aload_n hx hb dL_law_151 rfl (lv_at hl 5 rfl) ?_
    refine lv_iload hx hb dL_law_152 (lv_at hl 2 rfl) ?_
    refine lv_iload hx hb dL_law_154 (lv_at hl 1 rfl) ?_
    refine lv_iload hx hb dL_law_156 (lv_at hl 0 rfl) ?_
    obtain ⟨u_88, hc_89, h⟩ := bd_inv h
    refine wafterx_i (wr := [(e0, .inl (G.2.1, 36, .inl e_v))]) (vx_runSX (As := [.ref c0, .int (u_82 - s0), .int (u_84 - s0), .int (u_86 - s0)]) (rest := []) ⟨hx, hb, hml, hown, hts⟩ (kL_tryLine (l := l) hst (G := G) c0 l0 l1 l2 l3 m0 m1 m2 m3 m4 m5 r0 r1 r2 r3 g0 g_e l_a l_b l_c l_n m_x m_y m_d m_t m_v m_n r_s r_n r_w r_k (u_82 - s0) (u_84 - s0) (u_86 - s0) N u_88 hc_89 _) (vx_cwSW 4 hts gL_law_L_tryLine rfl rfl rfl (by decide +kernel) ⟨(Nat.le_of_ble_eq_true rfl), (Nat.le_of_ble_eq_true rfl)⟩) (wPreSX hP hD hK hS hA hT [0, 1, 2, 3, 4, 5, 6, 7, 8, 9, 10, 11, 12, 13, 14, 15] rfl rfl) rfl rfl hl.1 rfl (lv_room (Nat.le_of_ble_eq_true rfl)) dL_law_158 ⟨by show _ ≤ 600130; omega, by show _ ≤ 7301080; omega⟩) hP hD hS hA [0, 1, 2, 3, 4, 5, 6, 7, 8, 9, 10, 11, 12, 13, 14, 15] [16] [1, 2, 3, 4, 5, 6, 7, 8, 9, 10, 11, 12, 13, 14, 15, 16, 0] rfl rfl rfl (by decide) rfl rfl (fun E ce q9 H locs he hP hD hS hce hcv hcl => by cases he) (fun u_88x H locs hu2 hP hD hS => ?_)
    obtain rfl := Sum.inr.inj hu2
    have hP : va_P G.1 vwCl (w_CE G c0 l0 l1 l2 l3 m0 m1 m2 m3 m4 m5 r0 r1 r2 r3 g0 e0 g_e u_88.2.1 u_88.2.2.1 u_88.2.2.2.1 u_88.2.2.2.2.1 u_88.2.2.2.2.2.1 u_88.2.2.2.2.2.2.1 u_88.2.2.2.2.2.2.2.1 u_88.2.2.2.2.2.2.2.2.1 u_88.2.2.2.2.2.2.2.2.2.1 u_88.2.2.2.2.2.2.2.2.2.2.1 u_88.2.2.2.2.2.2.2.2.2.2.2.1 u_88.2.2.2.2.2.2.2.2.2.2.2.2.1 r_w u_88.2.2.2.2.2.2.2.2.2.2.2.2.2 e_v) H := hP.sub [1, 2, 3, 4, 5, 6, 7, 8, 9, 10, 11, 12, 13, 14, 15, 16, 0] rfl
    have hD : va_D A (w_CE G c0 l0 l1 l2 l3 m0 m1 m2 m3 m4 m5 r0 r1 r2 r3 g0 e0 g_e u_88.2.1 u_88.2.2.1 u_88.2.2.2.1 u_88.2.2.2.2.1 u_88.2.2.2.2.2.1 u_88.2.2.2.2.2.2.1 u_88.2.2.2.2.2.2.2.1 u_88.2.2.2.2.2.2.2.2.1 u_88.2.2.2.2.2.2.2.2.2.1 u_88.2.2.2.2.2.2.2.2.2.2.1 u_88.2.2.2.2.2.2.2.2.2.2.2.1 u_88.2.2.2.2.2.2.2.2.2.2.2.2.1 r_w u_88.2.2.2.2.2.2.2.2.2.2.2.2.2 e_v) := hD.sub [1, 2, 3, 4, 5, 6, 7, 8, 9, 10, 11, 12, 13, 14, 15, 16, 0] rfl rfl
    refine lv_istore (lv' := [(13, .int u_88.1), (12, .int (u_86 - s0)), (11, .int (u_84 - s0)), (10, .int (u_82 - s0)), (9, .int s0), (0, .ref b), (1, .ref c0), (2, .ref e0), (3, .int x3), (4, .int x4), (5, .int x5), (6, .int x6), (7, .int x7)]) hx hb dL_law_161 hl (by decide) rfl (fun ls hl => ?_)
    refine lv_iload hx hb dL_law_163 (lv_at hl 0 rfl) ?_
    refine lv_if_lt (tgt := 196) hx hb dL_law_165 (by decide) (fun c_90 => ?_) (fun c_90 => ?_)
    · have h := ip c_90 h
      refine lv_iload hx hb dL_law_196 (lv_at hl 0 rfl) ?_
      refine lv_bipush (v := (-100)) hx hb dL_law_198 (by decide) ?_
      refine lv_icmp_ne (tgt := 207) hx hb dL_law_200 (by decide) (fun c_91 => ?_) (fun c_91 => ?_)
      · have h := iq c_91 h
        refine lv_iconst (v := 0) hx hb dL_law_207 (by decide) ?_
        refine W.widen (k := 30 + 8 * a + 4) (n := 2600 + 48 * a + 24) (by omega) (by omega) ?_
        refine w_208 a ha _ _ _ _ _ _ _ _ _ _ _ _ _ _ _ _ _ _ _ _ _ _ _ _ _ _ _ _ _ (fun  H locs ls hP hD hS hl h => ?_) hP hD hS (lv_sub hl [5, 6, 7, 8, 9, 10, 11, 12, 3, 2, 0] rfl) h
        refine W.widen (k := 30 + 8 * a + 8) (n := 2600 + 48 * a + 48) (by omega) (by omega) ?_
        refine w_228 a ha _ _ _ _ _ _ _ _ _ _ _ _ _ _ _ _ _ _ _ _ _ _ _  _ _ _ (fun x3_92 H locs ls hP hD hS hl h => ?_) hP hD hS (lv_sub hl [0, 1, 2, 3, 4, 5, 6, 7, 8] rfl) h
        refine W.widen (k := 30 + 8 * a + 8) (n := 2600 + 48 * a + 48) (by omega) (by omega) ?_
        exact hk_374 _ _ _ _ _ _ _ _ _ _ _ _ _ _ _ _ _ hP hD hS (lv_sub hl [0, 1, 2, 3, 4, 5, 6, 7] rfl) h
      · have h := ip c_91 h
        refine lv_iconst (v := 1) hx hb dL_law_203 (by decide) ?_
        refine lv_goto (tgt := 208) hx hb dL_law_204 (by decide) ?_
        refine W.widen (k := 30 + 8 * a + 4) (n := 2600 + 48 * a + 24) (by omega) (by omega) ?_
        refine w_208 a ha _ _ _ _ _ _ _ _ _ _ _ _ _ _ _ _ _ _ _ _ _ _ _ _ _ _ _ _ _ (fun  H locs ls hP hD hS hl h => ?_) hP hD hS (lv_sub hl [5, 6, 7, 8, 9, 10, 11, 12, 3, 2, 0] rfl) h
        refine W.widen (k := 30 + 8 * a + 8) (n := 2600 + 48 * a + 48) (by omega) (by omega) ?_
        refine w_228 a ha _ _ _ _ _ _ _ _ _ _ _ _ _ _ _ _ _ _ _ _ _ _ _  _ _ _ (fun x3_93 H locs ls hP hD hS hl h => ?_) hP hD hS (lv_sub hl [0, 1, 2, 3, 4, 5, 6, 7, 8] rfl) h
        refine W.widen (k := 30 + 8 * a + 8) (n := 2600 + 48 * a + 48) (by omega) (by omega) ?_
        exact hk_374 _ _ _ _ _ _ _ _ _ _ _ _ _ _ _ _ _ hP hD hS (lv_sub hl [0, 1, 2, 3, 4, 5, 6, 7] rfl) h
    · have h := iq c_90 h
      refine lv_iload hx hb dL_law_168 (lv_at hl 0 rfl) ?_
      refine lv_iload_n hx hb dL_law_170 rfl (lv_at hl 8 rfl) ?_
      refine lv_icmp_ne (tgt := 226) hx hb dL_law_171 (by decide) (fun c_94 => ?_) (fun c_94 => ?_)
      · have h := iq c_94 h
        refine lv_iconst (v := 0) hx hb dL_law_226 (by decide) ?_
        cases h
      · have h := ip c_94 h
        refine lv_aload_n hx hb dL_law_174 rfl (lv_at hl 6 rfl) ?_
        refine lv_iload hx hb dL_law_175 (lv_at hl 3 rfl) ?_
        refine lv_ineg hx hb dL_law_177 ?_
        refine lv_iload hx hb dL_law_178 (lv_at hl 2 rfl) ?_
        refine lv_ineg hx hb dL_law_180 ?_
        refine lv_iload hx hb dL_law_181 (lv_at hl 1 rfl) ?_
        refine lv_ineg hx hb dL_law_183 ?_
        obtain ⟨u_95, hc_96, h⟩ := bd_inv h
        refine wafterx_i (wr := [(e0, .inl (G.2.1, 36, .inl e_v))]) (vx_runSX (As := [.ref c0, .int (-(u_82 - s0)), .int (-(u_84 - s0)), .int (-(u_86 - s0))]) (rest := []) ⟨hx, hb, hml, hown, hts⟩ (kL_tryLine (l := l) hst (G := G) c0 l0 l1 l2 l3 m0 m1 m2 m3 m4 m5 r0 r1 r2 r3 g0 g_e u_88.2.1 u_88.2.2.1 u_88.2.2.2.1 u_88.2.2.2.2.1 u_88.2.2.2.2.2.1 u_88.2.2.2.2.2.2.1 u_88.2.2.2.2.2.2.2.1 u_88.2.2.2.2.2.2.2.2.1 u_88.2.2.2.2.2.2.2.2.2.1 u_88.2.2.2.2.2.2.2.2.2.2.1 u_88.2.2.2.2.2.2.2.2.2.2.2.1 u_88.2.2.2.2.2.2.2.2.2.2.2.2.1 r_w u_88.2.2.2.2.2.2.2.2.2.2.2.2.2 (-(u_82 - s0)) (-(u_84 - s0)) (-(u_86 - s0)) N u_95 hc_96 _) (vx_cwSW 4 hts gL_law_L_tryLine rfl rfl rfl (by decide +kernel) ⟨(Nat.le_of_ble_eq_true rfl), (Nat.le_of_ble_eq_true rfl)⟩) (wPreSX hP hD hK hS hA hT [0, 1, 2, 3, 4, 5, 6, 7, 8, 9, 10, 11, 12, 13, 14, 15] rfl rfl) rfl rfl hl.1 rfl (lv_room (Nat.le_of_ble_eq_true rfl)) dL_law_184 ⟨by show _ ≤ 600130; omega, by show _ ≤ 7301080; omega⟩) hP hD hS hA [0, 1, 2, 3, 4, 5, 6, 7, 8, 9, 10, 11, 12, 13, 14, 15] [16] [1, 2, 3, 4, 5, 6, 7, 8, 9, 10, 11, 12, 13, 14, 15, 16, 0] rfl rfl rfl (by decide) rfl rfl (fun E ce q9 H locs he hP hD hS hce hcv hcl => by cases he) (fun u_95x H locs hu2 hP hD hS => ?_)
        obtain rfl := Sum.inr.inj hu2
        have hP : va_P G.1 vwCl (w_CE G c0 l0 l1 l2 l3 m0 m1 m2 m3 m4 m5 r0 r1 r2 r3 g0 e0 g_e u_95.2.1 u_95.2.2.1 u_95.2.2.2.1 u_95.2.2.2.2.1 u_95.2.2.2.2.2.1 u_95.2.2.2.2.2.2.1 u_95.2.2.2.2.2.2.2.1 u_95.2.2.2.2.2.2.2.2.1 u_95.2.2.2.2.2.2.2.2.2.1 u_95.2.2.2.2.2.2.2.2.2.2.1 u_95.2.2.2.2.2.2.2.2.2.2.2.1 u_95.2.2.2.2.2.2.2.2.2.2.2.2.1 r_w u_95.2.2.2.2.2.2.2.2.2.2.2.2.2 e_v) H := hP.sub [1, 2, 3, 4, 5, 6, 7, 8, 9, 10, 11, 12, 13, 14, 15, 16, 0] rfl
        have hD : va_D A (w_CE G c0 l0 l1 l2 l3 m0 m1 m2 m3 m4 m5 r0 r1 r2 r3 g0 e0 g_e u_95.2.1 u_95.2.2.1 u_95.2.2.2.1 u_95.2.2.2.2.1 u_95.2.2.2.2.2.1 u_95.2.2.2.2.2.2.1 u_95.2.2.2.2.2.2.2.1 u_95.2.2.2.2.2.2.2.2.1 u_95.2.2.2.2.2.2.2.2.2.1 u_95.2.2.2.2.2.2.2.2.2.2.1 u_95.2.2.2.2.2.2.2.2.2.2.2.1 u_95.2.2.2.2.2.2.2.2.2.2.2.2.1 r_w u_95.2.2.2.2.2.2.2.2.2.2.2.2.2 e_v) := hD.sub [1, 2, 3, 4, 5, 6, 7, 8, 9, 10, 11, 12, 13, 14, 15, 16, 0] rfl rfl
        refine lv_sipush (v := (-200)) hx hb dL_law_187 (by decide) ?_
        refine lv_icmp_eq (tgt := 228) hx hb dL_law_190 (by decide) (fun c_97 => ?_) (fun c_97 => ?_)
        · have h := ip c_97 h
          refine W.widen (k := 30 + 8 * a + 8) (n := 2600 + 48 * a + 48) (by omega) (by omega) ?_
          refine w_228 a ha _ _ _ _ _ _ _ _ _ _ _ _ _ _ _ _ _ _ _ _ _ _ _  _ _ _ (fun x3_98 H locs ls hP hD hS hl h => ?_) hP hD hS (lv_sub hl [5, 6, 7, 8, 9, 10, 11, 12, 0] rfl) h
          refine W.widen (k := 30 + 8 * a + 8) (n := 2600 + 48 * a + 48) (by omega) (by omega) ?_
          exact hk_374 _ _ _ _ _ _ _ _ _ _ _ _ _ _ _ _ _ hP hD hS (lv_sub hl [0, 1, 2, 3, 4, 5, 6, 7] rfl) h
        · have h := iq c_97 h
          refine lv_goto (tgt := 226) hx hb dL_law_193 (by decide) ?_
          refine lv_iconst (v := 0) hx hb dL_law_226 (by decide) ?_
          cases h
  have w_70 : ∀ (a : Nat) (ha : a ≤ 24) (k_21 : Int32 → Int32 → Int32 → Int64 → (Nat → Int32) → (Nat → Int32) → (Nat → Int32) → Int32 → (Nat → Int32) → (Nat → Int32) → (Nat → Int32) → (Nat → Int32) → (Nat → Int32) → Int32 → (Nat → Int32) → (Nat → Int32) → (Nat → Int32) → Int32 → (Nat → Int32) → Option Unit) (x3 : Int32) (x4 : Int32) (x5 : Int32) (x6 : Int32) (x7 : Int32) (g_e : Int64) (l_a : Nat → Int32) (l_b : Nat → Int32) (l_c : Nat → Int32) (l_n : Int32) (m_x : Nat → Int32) (m_y : Nat → Int32) (m_d : Nat → Int32) (m_t : Nat → Int32) (m_v : Nat → Int32) (m_n : Int32) (r_s : Nat → Int32) (r_n : Nat → Int32) (r_w : Nat → Int32) (r_k : Int32) (e_v : Nat → Int32) (s0 : Int32) (H : Heap) (locs : List Loc) (ls : Array Slot), (∀ (y3 : Int32) (y4 : Int32) (y5 : Int32) (yg_e : Int64) (yl_a : Nat → Int32) (yl_b : Nat → Int32) (yl_c : Nat → Int32) (yl_n : Int32) (ym_x : Nat → Int32) (ym_y : Nat → Int32) (ym_d : Nat → Int32) (ym_t : Nat → Int32) (ym_v : Nat → Int32) (ym_n : Int32) (yr_s : Nat → Int32) (yr_n : Nat → Int32) (yr_w : Nat → Int32) (yr_k : Int32) (ye_v : Nat → Int32) (H : Heap) (locs : List Loc) (ls : Array Slot), va_P G.1 vwCl (w_CE G c0 l0 l1 l2 l3 m0 m1 m2 m3 m4 m5 r0 r1 r2 r3 g0 e0 yg_e yl_a yl_b yl_c yl_n ym_x ym_y ym_d ym_t ym_v ym_n yr_s yr_n yr_w yr_k ye_v) H → va_D A (w_CE G c0 l0 l1 l2 l3 m0 m1 m2 m3 m4 m5 r0 r1 r2 r3 g0 e0 yg_e yl_a yl_b yl_c yl_n ym_x ym_y ym_d ym_t ym_v ym_n yr_s yr_n yr_w yr_k ye_v) → va_S A s.heap H locs → lv_has ls 14 [(0, .ref b), (1, .ref c0), (2, .ref e0), (3, .int y3), (4, .int y4), (5, .int y5)] → k_21 y3 y4 y5 yg_e yl_a yl_b yl_c yl_n ym_x ym_y ym_d ym_t ym_v ym_n yr_s yr_n yr_w yr_k ye_v = some v → W p l e room_1 s m #[Value.ref b] below meth c0v H locs (30 + 8 * a + 8) (2600 + 48 * a + 48) (lw_Z below #[Value.ref b] s) (F0 m 21 ls [])) → va_P G.1 vwCl (w_CE G c0 l0 l1 l2 l3 m0 m1 m2 m3 m4 m5 r0 r1 r2 r3 g0 e0 g_e l_a l_b l_c l_n m_x m_y m_d m_t m_v m_n r_s r_n r_w r_k e_v) H → va_D A (w_CE G c0 l0 l1 l2 l3 m0 m1 m2 m3 m4 m5 r0 r1 r2 r3 g0 e0 g_e l_a l_b l_c l_n m_x m_y m_d m_t m_v m_n r_s r_n r_w r_k e_v) → va_S A s.heap H locs → lv_has ls 14 [(0, .ref b), (1, .ref c0), (2, .ref e0), (3, .int x3), (4, .int x4), (5, .int x5), (6, .int x6), (7, .int x7)] → fL_law_b70 N L xs x6 x7 x3 x4 x5 g_e l_a l_b l_c l_n m_x m_y m_d m_t m_v m_n r_s r_n r_w r_k e_v s0 k_21 = some v → W p l e room_1 s m #[Value.ref b] below meth c0v H locs (30 + 8 * a + 0) (2600 + 48 * a + 0) (lw_Z below #[Value.ref b] s) (F0 m 70 ls [.int s0]) := by
    intro a ha k_21 x3 x4 x5 x6 x7 g_e l_a l_b l_c l_n m_x m_y m_d m_t m_v m_n r_s r_n r_w r_k e_v s0 H locs ls hk_21 hP hD hS hl h
    rw [fL_law_b70.eq_1] at h
    refine lv_istore (lv' := [(8, .int s0), (0, .ref b), (1, .ref c0), (2, .ref e0), (3, .int x3), (4, .int x4), (5, .int x5), (6, .int x6), (7, .int x7)]) hx hb dL_law_70 hl (by decide) rfl (fun ls hl => ?_)
    refine lv_iload hx hb dL_law_72 (lv_at hl 0 rfl) ?_
    refine lv_iconst (v := 4) hx hb dL_law_74 (by decide) ?_
    refine lv_icmp_ge (tgt := 244) hx hb dL_law_75 (by decide) (fun c_99 => ?_) (fun c_99 => ?_)
    · have h := ip c_99 h
      refine lv_iload hx hb dL_law_244 (lv_at hl 0 rfl) ?_
      refine lv_iconst (v := 4) hx hb dL_law_246 (by decide) ?_
      refine lv_icmp_ne (tgt := 276) hx hb dL_law_247 (by decide) (fun c_100 => ?_) (fun c_100 => ?_)
      · have h := iq c_100 h
        refine W.widen (k := 30 + 8 * a + 0) (n := 2600 + 48 * a + 0) (by omega) (by omega) ?_
        refine w_276 a ha _ _ _ _ _ _ _ _ _ _ _ _ _ _ _ _ _ _ _ _ _ _  _ _ _ (fun x4_101 g_e_102 e_v_103 H locs ls hP hD hS hl h => ?_) hP hD hS (lv_sub hl [1, 2, 3, 4, 5, 6, 7, 8] rfl) h
        refine W.widen (k := 30 + 8 * a + 8) (n := 2600 + 48 * a + 48) (by omega) (by omega) ?_
        refine w_374 a ha _ _ _ _ _ _ _ _ _ _ _ _ _ _ _ _ _ _ _ _ _ _  _ _ _ (fun x5_104 r_w_105 H locs ls hP hD hS hl h => ?_) hP hD hS (lv_sub hl [0, 1, 2, 3, 4, 5, 6, 7] rfl) h
        refine W.widen (k := 30 + 8 * a + 8) (n := 2600 + 48 * a + 48) (by omega) (by omega) ?_
        exact hk_21 _ _ _ _ _ _ _ _ _ _ _ _ _ _ _ _ _ _ _ _ _ _ hP hD hS (lv_sub hl [0, 1, 2, 3, 4, 5] rfl) h
      · have h := ip c_100 h
        refine lv_iload_n hx hb dL_law_250 rfl (lv_at hl 4 rfl) ?_
        refine lv_iconst (v := 2) hx hb dL_law_251 (by decide) ?_
        refine lv_icmp_le (tgt := 276) hx hb dL_law_252 (by decide) (fun c_106 => ?_) (fun c_106 => ?_)
        · have h := ip c_106 h
          refine W.widen (k := 30 + 8 * a + 0) (n := 2600 + 48 * a + 0) (by omega) (by omega) ?_
          refine w_276 a ha _ _ _ _ _ _ _ _ _ _ _ _ _ _ _ _ _ _ _ _ _ _  _ _ _ (fun x4_107 g_e_108 e_v_109 H locs ls hP hD hS hl h => ?_) hP hD hS (lv_sub hl [1, 2, 3, 4, 5, 6, 7, 8] rfl) h
          refine W.widen (k := 30 + 8 * a + 8) (n := 2600 + 48 * a + 48) (by omega) (by omega) ?_
          refine w_374 a ha _ _ _ _ _ _ _ _ _ _ _ _ _ _ _ _ _ _ _ _ _ _  _ _ _ (fun x5_110 r_w_111 H locs ls hP hD hS hl h => ?_) hP hD hS (lv_sub hl [0, 1, 2, 3, 4, 5, 6, 7] rfl) h
          refine W.widen (k := 30 + 8 * a + 8) (n := 2600 + 48 * a + 48) (by omega) (by omega) ?_
          exact hk_21 _ _ _ _ _ _ _ _ _ _ _ _ _ _ _ _ _ _ _ _ _ _ hP hD hS (lv_sub hl [0, 1, 2, 3, 4, 5] rfl) h
        · have h := iq c_106 h
          refine lv_iinc (v := (x3 + (-1))) (lv' := [(3, .int (x3 + (-1))), (8, .int s0), (0, .ref b), (1, .ref c0), (2, .ref e0), (4, .int x4), (5, .int x5), (6, .int x6), (7, .int x7)]) hx hb dL_law_255 hl (k := 4) rfl rfl (by decide) rfl (fun ls hl => ?_)
          refine lv_aload_n hx hb dL_law_258 rfl (lv_at hl 3 rfl) ?_
          refine lv_iload hx hb dL_law_259 (lv_at hl 7 rfl) ?_
          refine lv_iload_n hx hb dL_law_261 rfl (lv_at hl 0 rfl) ?_
          refine lv_iconst (v := 1) hx hb dL_law_262 (by decide) ?_
          refine lv_iadd hx hb dL_law_263 ?_
          obtain ⟨u_112, hc_113, h⟩ := bd_inv h
          refine wafter_i (wr := (w_CE G c0 l0 l1 l2 l3 m0 m1 m2 m3 m4 m5 r0 r1 r2 r3 g0 e0 g_e l_a l_b l_c l_n m_x m_y m_d m_t m_v m_n r_s r_n r_w r_k e_v)) (w2 := (w_CE G c0 l0 l1 l2 l3 m0 m1 m2 m3 m4 m5 r0 r1 r2 r3 g0 e0 g_e l_a l_b l_c l_n m_x m_y m_d m_t m_v m_n r_s r_n r_w r_k e_v)) (va_runS (As := [.int x6, .int ((x3 + (-1)) + 1)]) (rest := [.ref c0]) ⟨hx, hb, hml, hown, hts⟩ (kL_low (l := l) (G := G)   x6 ((x3 + (-1)) + 1) N u_112 hc_113 _) (va_cwS 2 hts gL_law_L_low rfl rfl rfl (by decide +kernel) ⟨Nat.le_of_ble_eq_true rfl, Nat.le_of_ble_eq_true rfl⟩) (wPreS hP hD hK [] rfl rfl) rfl rfl hl.1 rfl (lv_room (Nat.le_of_ble_eq_true rfl)) dL_law_264 ⟨by show _ ≤ 600130; omega, by show _ ≤ 7301080; omega⟩) hP hD hS hA [] [0, 1, 2, 3, 4, 5, 6, 7, 8, 9, 10, 11, 12, 13, 14, 15, 16] [0, 1, 2, 3, 4, 5, 6, 7, 8, 9, 10, 11, 12, 13, 14, 15, 16] rfl rfl rfl (by decide) rfl rfl (fun H locs hP hD hS => ?_)
          obtain ⟨u_114, hc_115, h⟩ := bdn_n h
          refine wafter_i (wr := [(e0, .inl (G.2.1, 36, .inl e_v))]) (w2 := (w_CE G c0 l0 l1 l2 l3 m0 m1 m2 m3 m4 m5 r0 r1 r2 r3 g0 e0 g_e u_114.2.1 u_114.2.2.1 u_114.2.2.2.1 u_114.2.2.2.2.1 u_114.2.2.2.2.2.1 u_114.2.2.2.2.2.2.1 u_114.2.2.2.2.2.2.2.1 u_114.2.2.2.2.2.2.2.2.1 u_114.2.2.2.2.2.2.2.2.2.1 u_114.2.2.2.2.2.2.2.2.2.2.1 u_114.2.2.2.2.2.2.2.2.2.2.2.1 u_114.2.2.2.2.2.2.2.2.2.2.2.2.1 r_w u_114.2.2.2.2.2.2.2.2.2.2.2.2.2 e_v)) (va_runV (As := [.int u_112]) (rest := []) ⟨hx, hb, hml, hown, hts⟩ (nX4_takeAway (l := l) (G := G) c0 l0 l1 l2 l3 m0 m1 m2 m3 m4 m5 r0 r1 r2 r3 g0 g_e l_a l_b l_c l_n m_x m_y m_d m_t m_v m_n r_s r_n r_w r_k u_112 N u_114 hc_115 _) (cwV 1 hts gL_law_X4_takeAway rfl rfl rfl (by decide +kernel) ⟨Nat.le_of_ble_eq_true rfl, Nat.le_of_ble_eq_true rfl⟩) (wPreV hP hD hK [0, 1, 2, 3, 4, 5, 6, 7, 8, 9, 10, 11, 12, 13, 14, 15] rfl rfl (ci := 4) (qb := 0) rfl rfl rfl) rfl rfl hl.1 rfl (lv_room (Nat.le_of_ble_eq_true rfl)) dL_law_267 ⟨by show _ ≤ 600130; omega, by show _ ≤ 7301080; omega⟩) hP hD hS hA [0, 1, 2, 3, 4, 5, 6, 7, 8, 9, 10, 11, 12, 13, 14, 15] [16] [1, 2, 3, 4, 5, 6, 7, 8, 9, 10, 11, 12, 13, 14, 15, 16, 0] rfl rfl rfl (by decide) rfl rfl (fun H locs hP hD hS => ?_)
          refine lv_iload_n hx hb dL_law_270 rfl (lv_at hl 0 rfl) ?_
          refine lv_icmp_eq (tgt := 374) hx hb dL_law_271 (by decide) (fun c_116 => ?_) (fun c_116 => ?_)
          · have h := ip c_116 h
            refine W.widen (k := 30 + 8 * a + 8) (n := 2600 + 48 * a + 48) (by omega) (by omega) ?_
            refine w_374 a ha _ _ _ _ _ _ _ _ _ _ _ _ _ _ _ _ _ _ _ _ _ _  _ _ _ (fun x5_117 r_w_118 H locs ls hP hD hS hl h => ?_) hP hD hS (lv_sub hl [2, 3, 4, 0, 5, 6, 7, 8] rfl) h
            refine W.widen (k := 30 + 8 * a + 8) (n := 2600 + 48 * a + 48) (by omega) (by omega) ?_
            exact hk_21 _ _ _ _ _ _ _ _ _ _ _ _ _ _ _ _ _ _ _ _ _ _ hP hD hS (lv_sub hl [0, 1, 2, 3, 4, 5] rfl) h
          · have h := iq c_116 h
            refine lv_iconst (v := 0) hx hb dL_law_274 (by decide) ?_
            cases h
    · have h := iq c_99 h
      refine lv_iload hx hb dL_law_78 (lv_at hl 8 rfl) ?_
      refine lv_bipush (v := 20) hx hb dL_law_80 (by decide) ?_
      refine lv_ishr hx hb dL_law_82 ?_
      refine lv_iconst (v := 3) hx hb dL_law_83 (by decide) ?_
      obtain ⟨u_119, hc_120, h⟩ := bd_inv h
      refine wafter_i (wr := (w_CE G c0 l0 l1 l2 l3 m0 m1 m2 m3 m4 m5 r0 r1 r2 r3 g0 e0 g_e l_a l_b l_c l_n m_x m_y m_d m_t m_v m_n r_s r_n r_w r_k e_v)) (w2 := (w_CE G c0 l0 l1 l2 l3 m0 m1 m2 m3 m4 m5 r0 r1 r2 r3 g0 e0 g_e l_a l_b l_c l_n m_x m_y m_d m_t m_v m_n r_s r_n r_w r_k e_v)) (va_runS (As := [.int (x7 >>> (20 &&& 31)), .int 3]) (rest := []) ⟨hx, hb, hml, hown, hts⟩ (kL_low (l := l) (G := G)   (x7 >>> (20 &&& 31)) 3 N u_119 hc_120 _) (va_cwS 2 hts gL_law_L_low rfl rfl rfl (by decide +kernel) ⟨Nat.le_of_ble_eq_true rfl, Nat.le_of_ble_eq_true rfl⟩) (wPreS hP hD hK [] rfl rfl) rfl rfl hl.1 rfl (lv_room (Nat.le_of_ble_eq_true rfl)) dL_law_84 ⟨by show _ ≤ 600130; omega, by show _ ≤ 7301080; omega⟩) hP hD hS hA [] [0, 1, 2, 3, 4, 5, 6, 7, 8, 9, 10, 11, 12, 13, 14, 15, 16] [0, 1, 2, 3, 4, 5, 6, 7, 8, 9, 10, 11, 12, 13, 14, 15, 16] rfl rfl rfl (by decide) rfl rfl (fun H locs hP hD hS => ?_)
      refine lv_if_ne (tgt := 95) hx hb dL_law_87 (by decide) (fun c_121 => ?_) (fun c_121 => ?_)
      · have h := iq c_121 h
        refine lv_iconst (v := 2) hx hb dL_law_95 (by decide) ?_
        refine W.widen (k := 30 + 8 * a + 0) (n := 2600 + 48 * a + 0) (by omega) (by omega) ?_
        refine w_96 a ha _ _ _ _ _ _ _ _ _ _ _ _ _ _ _ _ _ _ _ _ _ _ _ _ _ _ (fun x3_122 l_a_123 l_b_124 l_c_125 l_n_126 m_x_127 m_y_128 m_d_129 m_t_130 m_v_131 m_n_132 r_s_133 r_n_134 r_k_135 H locs ls hP hD hS hl h => ?_) hP hD hS (lv_sub hl [1, 2, 3, 4, 5, 6, 7, 8] rfl) h
        refine W.widen (k := 30 + 8 * a + 8) (n := 2600 + 48 * a + 48) (by omega) (by omega) ?_
        refine w_374 a ha _ _ _ _ _ _ _ _ _ _ _ _ _ _ _ _ _ _ _ _ _ _  _ _ _ (fun x5_136 r_w_137 H locs ls hP hD hS hl h => ?_) hP hD hS (lv_sub hl [0, 1, 2, 3, 4, 5, 6, 7] rfl) h
        refine W.widen (k := 30 + 8 * a + 8) (n := 2600 + 48 * a + 48) (by omega) (by omega) ?_
        exact hk_21 _ _ _ _ _ _ _ _ _ _ _ _ _ _ _ _ _ _ _ _ _ _ hP hD hS (lv_sub hl [0, 1, 2, 3, 4, 5] rfl) h
      · have h := ip c_121 h
        refine lv_bipush (v := 9) hx hb dL_law_90 (by decide) ?_
        refine lv_goto (tgt := 96) hx hb dL_law_92 (by decide) ?_
        refine W.widen (k := 30 + 8 * a + 0) (n := 2600 + 48 * a + 0) (by omega) (by omega) ?_
        refine w_96 a ha _ _ _ _ _ _ _ _ _ _ _ _ _ _ _ _ _ _ _ _ _ _ _ _ _ _ (fun x3_138 l_a_139 l_b_140 l_c_141 l_n_142 m_x_143 m_y_144 m_d_145 m_t_146 m_v_147 m_n_148 r_s_149 r_n_150 r_k_151 H locs ls hP hD hS hl h => ?_) hP hD hS (lv_sub hl [1, 2, 3, 4, 5, 6, 7, 8] rfl) h
        refine W.widen (k := 30 + 8 * a + 8) (n := 2600 + 48 * a + 48) (by omega) (by omega) ?_
        refine w_374 a ha _ _ _ _ _ _ _ _ _ _ _ _ _ _ _ _ _ _ _ _ _ _  _ _ _ (fun x5_152 r_w_153 H locs ls hP hD hS hl h => ?_) hP hD hS (lv_sub hl [0, 1, 2, 3, 4, 5, 6, 7] rfl) h
        refine W.widen (k := 30 + 8 * a + 8) (n := 2600 + 48 * a + 48) (by omega) (by omega) ?_
        exact hk_21 _ _ _ _ _ _ _ _ _ _ _ _ _ _ _ _ _ _ _ _ _ _ hP hD hS (lv_sub hl [0, 1, 2, 3, 4, 5] rfl) h
  have w_21 : ∀   (_z : Unit), ∀ (n a : Nat) (ha9 : a + n ≤ 25) (x3 : Int32) (x4 : Int32) (x5 : Int32) (g_e : Int64) (l_a : Nat → Int32) (l_b : Nat → Int32) (l_c : Nat → Int32) (l_n : Int32) (m_x : Nat → Int32) (m_y : Nat → Int32) (m_d : Nat → Int32) (m_t : Nat → Int32) (m_v : Nat → Int32) (m_n : Int32) (r_s : Nat → Int32) (r_n : Nat → Int32) (r_w : Nat → Int32) (r_k : Int32) (e_v : Nat → Int32) (H : Heap) (locs : List Loc) (ls : Array Slot), va_P G.1 vwCl (w_CE G c0 l0 l1 l2 l3 m0 m1 m2 m3 m4 m5 r0 r1 r2 r3 g0 e0 g_e l_a l_b l_c l_n m_x m_y m_d m_t m_v m_n r_s r_n r_w r_k e_v) H → va_D A (w_CE G c0 l0 l1 l2 l3 m0 m1 m2 m3 m4 m5 r0 r1 r2 r3 g0 e0 g_e l_a l_b l_c l_n m_x m_y m_d m_t m_v m_n r_s r_n r_w r_k e_v) → va_S A s.heap H locs → lv_has ls 14 [(0, .ref b), (1, .ref c0), (2, .ref e0), (3, .int x3), (4, .int x4), (5, .int x5)] → fL_law_b21 N L xs n x3 x4 x5 g_e l_a l_b l_c l_n m_x m_y m_d m_t m_v m_n r_s r_n r_w r_k e_v = some v → W p l e room_1 s m #[Value.ref b] below meth c0v H locs (30 + 8 * a + 0) (2600 + 48 * a + 0) (lw_Z below #[Value.ref b] s) (F0 m 21 ls []) := by
    intro _z n
    induction n with
    | zero =>
      intro a ha9 x3 x4 x5 g_e l_a l_b l_c l_n m_x m_y m_d m_t m_v m_n r_s r_n r_w r_k e_v H locs ls hP hD hS hl h
      rw [fL_law_b21.eq_1] at h
      cases h
    | succ n ih =>
      intro a ha9 x3 x4 x5 g_e l_a l_b l_c l_n m_x m_y m_d m_t m_v m_n r_s r_n r_w r_k e_v H locs ls hP hD hS hl h
      have ha : a ≤ 24 := by omega
      rw [fL_law_b21.eq_2] at h
      refine lv_iload hx hb dL_law_21 (lv_at hl 5 rfl) ?_
      refine lv_bipush (v := 24) hx hb dL_law_23 (by decide) ?_
      refine lv_icmp_ge (tgt := 570) hx hb dL_law_25 (by decide) (fun c_154 => ?_) (fun c_154 => ?_)
      · have h := ip c_154 h
        refine lv_iconst (v := 1) hx hb dL_law_570 (by decide) ?_
        refine va_forget (fun q hq => hAo _ (hS.2.2 q hq)) ?_
        refine W.widen (k := 600130) (n := 7301080) (by omega) (by omega) ?_
        exact lw_ret hx hb hr hlocks dL_law_571
      · have h := iq c_154 h
        refine lv_aload_n hx hb dL_law_28 rfl (lv_at hl 0 rfl) ?_
        refine lv_iconst (v := 2) hx hb dL_law_29 (by decide) ?_
        refine lv_iload hx hb dL_law_30 (lv_at hl 5 rfl) ?_
        refine lv_imul hx hb dL_law_32 ?_
        obtain ⟨u_155, hc_156, h⟩ := bd_inv h
        refine wafter_i (wr := (w_CE G c0 l0 l1 l2 l3 m0 m1 m2 m3 m4 m5 r0 r1 r2 r3 g0 e0 g_e l_a l_b l_c l_n m_x m_y m_d m_t m_v m_n r_s r_n r_w r_k e_v)) (w2 := (w_CE G c0 l0 l1 l2 l3 m0 m1 m2 m3 m4 m5 r0 r1 r2 r3 g0 e0 g_e l_a l_b l_c l_n m_x m_y m_d m_t m_v m_n r_s r_n r_w r_k e_v)) (va_runS (As := [.ref b, .int (2 * x5)]) (rest := []) ⟨hx, hb, hml, hown, hts⟩ (kL_cell (l := l) (G := G) b L xs (2 * x5) u_155 hc_156 _) (va_cwS 2 hts gL_law_L_cell rfl rfl rfl (by decide +kernel) ⟨Nat.le_of_ble_eq_true rfl, Nat.le_of_ble_eq_true rfl⟩) (wPreSx hP hD hK hS hX hbl hbA) rfl rfl hl.1 rfl (lv_room (Nat.le_of_ble_eq_true rfl)) dL_law_33 ⟨by show _ ≤ 600130; omega, by show _ ≤ 7301080; omega⟩) hP hD hS hA [] [0, 1, 2, 3, 4, 5, 6, 7, 8, 9, 10, 11, 12, 13, 14, 15, 16] [0, 1, 2, 3, 4, 5, 6, 7, 8, 9, 10, 11, 12, 13, 14, 15, 16] rfl rfl rfl (by decide) rfl rfl (fun H locs hP hD hS => ?_)
        refine lv_istore (lv' := [(6, .int u_155), (0, .ref b), (1, .ref c0), (2, .ref e0), (3, .int x3), (4, .int x4), (5, .int x5)]) hx hb dL_law_36 hl (by decide) rfl (fun ls hl => ?_)
        refine lv_aload_n hx hb dL_law_38 rfl (lv_at hl 1 rfl) ?_
        refine lv_iconst (v := 2) hx hb dL_law_39 (by decide) ?_
        refine lv_iload hx hb dL_law_40 (lv_at hl 6 rfl) ?_
        refine lv_imul hx hb dL_law_42 ?_
        refine lv_iconst (v := 1) hx hb dL_law_43 (by decide) ?_
        refine lv_iadd hx hb dL_law_44 ?_
        obtain ⟨u_157, hc_158, h⟩ := bd_inv h
        refine wafter_i (wr := (w_CE G c0 l0 l1 l2 l3 m0 m1 m2 m3 m4 m5 r0 r1 r2 r3 g0 e0 g_e l_a l_b l_c l_n m_x m_y m_d m_t m_v m_n r_s r_n r_w r_k e_v)) (w2 := (w_CE G c0 l0 l1 l2 l3 m0 m1 m2 m3 m4 m5 r0 r1 r2 r3 g0 e0 g_e l_a l_b l_c l_n m_x m_y m_d m_t m_v m_n r_s r_n r_w r_k e_v)) (va_runS (As := [.ref b, .int ((2 * x5) + 1)]) (rest := []) ⟨hx, hb, hml, hown, hts⟩ (kL_cell (l := l) (G := G) b L xs ((2 * x5) + 1) u_157 hc_158 _) (va_cwS 2 hts gL_law_L_cell rfl rfl rfl (by decide +kernel) ⟨Nat.le_of_ble_eq_true rfl, Nat.le_of_ble_eq_true rfl⟩) (wPreSx hP hD hK hS hX hbl hbA) rfl rfl hl.1 rfl (lv_room (Nat.le_of_ble_eq_true rfl)) dL_law_45 ⟨by show _ ≤ 600130; omega, by show _ ≤ 7301080; omega⟩) hP hD hS hA [] [0, 1, 2, 3, 4, 5, 6, 7, 8, 9, 10, 11, 12, 13, 14, 15, 16] [0, 1, 2, 3, 4, 5, 6, 7, 8, 9, 10, 11, 12, 13, 14, 15, 16] rfl rfl rfl (by decide) rfl rfl (fun H locs hP hD hS => ?_)
        refine lv_istore (lv' := [(7, .int u_157), (6, .int u_155), (0, .ref b), (1, .ref c0), (2, .ref e0), (3, .int x3), (4, .int x4), (5, .int x5)]) hx hb dL_law_48 hl (by decide) rfl (fun ls hl => ?_)
        refine lv_iload hx hb dL_law_50 (lv_at hl 7 rfl) ?_
        refine lv_iconst (v := 3) hx hb dL_law_52 (by decide) ?_
        refine lv_icmp_ge (tgt := 60) hx hb dL_law_53 (by decide) (fun c_159 => ?_) (fun c_159 => ?_)
        · have h := ip c_159 h
          refine lv_iload hx hb dL_law_60 (lv_at hl 1 rfl) ?_
          refine lv_bipush (v := 20) hx hb dL_law_62 (by decide) ?_
          refine lv_ishr hx hb dL_law_64 ?_
          refine lv_bipush (v := 8) hx hb dL_law_65 (by decide) ?_
          obtain ⟨u_160, hc_161, h⟩ := bd_inv h
          refine wafter_i (wr := (w_CE G c0 l0 l1 l2 l3 m0 m1 m2 m3 m4 m5 r0 r1 r2 r3 g0 e0 g_e l_a l_b l_c l_n m_x m_y m_d m_t m_v m_n r_s r_n r_w r_k e_v)) (w2 := (w_CE G c0 l0 l1 l2 l3 m0 m1 m2 m3 m4 m5 r0 r1 r2 r3 g0 e0 g_e l_a l_b l_c l_n m_x m_y m_d m_t m_v m_n r_s r_n r_w r_k e_v)) (va_runS (As := [.int (u_155 >>> (20 &&& 31)), .int 8]) (rest := []) ⟨hx, hb, hml, hown, hts⟩ (kL_low (l := l) (G := G)   (u_155 >>> (20 &&& 31)) 8 N u_160 hc_161 _) (va_cwS 2 hts gL_law_L_low rfl rfl rfl (by decide +kernel) ⟨Nat.le_of_ble_eq_true rfl, Nat.le_of_ble_eq_true rfl⟩) (wPreS hP hD hK [] rfl rfl) rfl rfl hl.1 rfl (lv_room (Nat.le_of_ble_eq_true rfl)) dL_law_67 ⟨by show _ ≤ 600130; omega, by show _ ≤ 7301080; omega⟩) hP hD hS hA [] [0, 1, 2, 3, 4, 5, 6, 7, 8, 9, 10, 11, 12, 13, 14, 15, 16] [0, 1, 2, 3, 4, 5, 6, 7, 8, 9, 10, 11, 12, 13, 14, 15, 16] rfl rfl rfl (by decide) rfl rfl (fun H locs hP hD hS => ?_)
          refine W.widen (k := 30 + 8 * a + 0) (n := 2600 + 48 * a + 0) (by omega) (by omega) ?_
          refine w_70 a ha _ _ _ _ _ _ _ _ _ _ _ _ _ _ _ _ _ _ _ _ _ _ _ _ _ _ (fun x3_162 x4_163 x5_164 g_e_165 l_a_166 l_b_167 l_c_168 l_n_169 m_x_170 m_y_171 m_d_172 m_t_173 m_v_174 m_n_175 r_s_176 r_n_177 r_w_178 r_k_179 e_v_180 H locs ls hP hD hS hl h => ?_) hP hD hS (lv_sub hl [2, 3, 4, 5, 6, 7, 1, 0] rfl) h
          refine W.widen (k := 30 + 8 * (a + 1)) (n := 2600 + 48 * (a + 1)) (by omega) (by omega) ?_
          exact ih (a + 1) (by omega) _ _ _ _ _ _ _ _ _ _ _ _ _ _ _ _ _ _ _ _ _ _ hP hD hS (lv_sub hl [0, 1, 2, 3, 4, 5] rfl) h
        · have h := iq c_159 h
          refine lv_iconst (v := 0) hx hb dL_law_56 (by decide) ?_
          refine lv_goto (tgt := 70) hx hb dL_law_57 (by decide) ?_
          refine W.widen (k := 30 + 8 * a + 0) (n := 2600 + 48 * a + 0) (by omega) (by omega) ?_
          refine w_70 a ha _ _ _ _ _ _ _ _ _ _ _ _ _ _ _ _ _ _ _ _ _ _ _ _ _ _ (fun x3_181 x4_182 x5_183 g_e_184 l_a_185 l_b_186 l_c_187 l_n_188 m_x_189 m_y_190 m_d_191 m_t_192 m_v_193 m_n_194 r_s_195 r_n_196 r_w_197 r_k_198 e_v_199 H locs ls hP hD hS hl h => ?_) hP hD hS (lv_sub hl [2, 3, 4, 5, 6, 7, 1, 0] rfl) h
          refine W.widen (k := 30 + 8 * (a + 1)) (n := 2600 + 48 * (a + 1)) (by omega) (by omega) ?_
          exact ih (a + 1) (by omega) _ _ _ _ _ _ _ _ _ _ _ _ _ _ _ _ _ _ _ _ _ _ hP hD hS (lv_sub hl [0, 1, 2, 3, 4, 5] rfl) h
  exact w_21   () 25 0 (by omega) _ _ _ _ _ _ _ _ _ _ _ _ _ _ _ _ _ _ _ _ _ _ hP hD hS hl h
