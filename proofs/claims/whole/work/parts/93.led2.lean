theorem trF_le (R : RT) (W : WT) : ∀ k s y t, (trF R W k s y t).1 ≤ s + k
  | 0, s, y, t => Nat.zero_le _
  | k + 1, s, y, t => by
    rw [trF]
    split
    · exact Nat.zero_le _
    · split
      · show s + 1 ≤ s + (k + 1)
        omega
      · have := trF_le R W k (s + 1) (acr R (W.2.2.1 y).toNatClampNeg (nI y)).toNatClampNeg (upd t s (nI y))
        omega
def ledW (P : PT) (L : LT) (R : RT) (n : Nat) (p d : Int32) (W : WT) : WT := findD P L R p.toNatClampNeg n (P.1 p.toNatClampNeg).toNatClampNeg d W
def ledT (R : RT) (W : WT) (x : Int32) : Nat × (Nat → Int32) := trF R W 8 0 x.toNatClampNeg W.2.1

def tX11_led : List q_I := [(0, .aload_n 0, 1, 0, 0), (1, .iload_n 1, 1, 0, 0), (2, .iload_n 2, 1, 0, 0), (3, .iload_n 3, 1, 0, 0), (4, .invokevirtual 215, 3, 0, 0), (7, .ifCond .eq 14, 3, 0, 21), (10, .new 322, 3, 0, 0), (13, .dup, 1, 0, 0), (14, .ldc_w 324, 3, 0, 0), (17, .invokespecial 326, 3, 0, 0), (20, .athrow, 1, 0, 0), (21, .aload_n 0, 1, 0, 0), (22, .getfield 44, 3, 0, 0), (25, .aload_n 0, 1, 0, 0), (26, .getfield 16, 3, 0, 0), (29, .iload_n 1, 1, 0, 0), (30, .iload_n 3, 1, 0, 0), (31, .invokevirtual 219, 3, 0, 0), (34, .aload_n 0, 1, 0, 0), (35, .getfield 44, 3, 0, 0), (38, .aload_n 0, 1, 0, 0), (39, .getfield 16, 3, 0, 0), (42, .getfield 204, 3, 0, 0), (45, .iload_n 2, 1, 0, 0), (46, .invokevirtual 329, 3, 0, 0), (49, .istore 5, 2, 0, 0), (51, .iload 4, 2, 0, 0), (53, .ifCond .lt 10, 3, 0, 63), (56, .iload 4, 2, 0, 0), (58, .iload 5, 2, 0, 0), (60, .if_icmp .lt 14, 3, 0, 74), (63, .new 322, 3, 0, 0), (66, .dup, 1, 0, 0), (67, .ldc_w 333, 3, 0, 0), (70, .invokespecial 326, 3, 0, 0), (73, .athrow, 1, 0, 0), (74, .aload_n 0, 1, 0, 0), (75, .getfield 44, 3, 0, 0), (78, .getfield 335, 3, 0, 0), (81, .iload 5, 2, 0, 0), (83, .iconst 1, 1, 1, 0), (84, .isub, 1, 0, 0), (85, .iload 4, 2, 0, 0), (87, .isub, 1, 0, 0), (88, .iaload, 1, 0, 0), (89, .ireturn, 1, 0, 0)]
theorem tX11_led_ok : (tX11_led.all (q_okI cX11_led)) = true := by decide +kernel

abbrev fdX11_led : List (Nat ⊕ (Nat × Nat)) := [.inl 0, .inr (0, 0), .inr (0, 2), .inr (2, 0), .inr (2, 1), .inr (2, 2), .inr (2, 3), .inr (2, 5), .inr (7, 0), .inr (7, 1), .inr (7, 2), .inr (7, 3), .inr (7, 4), .inr (7, 5), .inr (7, 6), .inr (2, 6), .inr (15, 0), .inr (15, 1), .inr (15, 2), .inr (15, 3), .inr (15, 4), .inr (15, 5), .inr (15, 6), .inr (2, 7), .inr (23, 0), .inr (23, 1), .inr (23, 2), .inr (23, 3), .inr (23, 4), .inr (23, 5), .inr (23, 6), .inr (23, 7), .inr (0, 3), .inr (32, 0), .inr (32, 1), .inr (32, 2), .inr (32, 3), .inr (32, 5), .inr (37, 0), .inr (37, 1), .inr (37, 2), .inr (37, 3), .inr (37, 4), .inr (37, 5), .inr (37, 6), .inr (32, 6), .inr (45, 0), .inr (45, 1), .inr (45, 2), .inr (45, 3), .inr (45, 4), .inr (45, 5), .inr (45, 6), .inr (32, 7), .inr (53, 0), .inr (53, 1), .inr (53, 2), .inr (53, 3), .inr (53, 4), .inr (53, 5), .inr (53, 6), .inr (53, 7), .inr (0, 4), .inr (62, 2), .inr (0, 7), .inr (64, 0), .inr (64, 1), .inr (64, 2), .inr (64, 3), .inr (64, 4), .inr (64, 5), .inr (0, 8), .inr (71, 1), .inr (71, 2), .inr (71, 3), .inr (71, 4), .inr (71, 5), .inr (71, 6), .inr (0, 9), .inr (78, 0), .inr (78, 1), .inr (78, 2), .inr (78, 3), .inr (78, 4), .inr (0, 10), .inr (84, 0), .inr (84, 1), .inr (84, 2), .inr (84, 3), .inr (84, 4), .inr (84, 5), .inr (84, 6), .inr (0, 11), .inr (92, 0), .inr (92, 1), .inr (92, 2), .inr (92, 3), .inr (92, 4), .inr (92, 5), .inr (0, 12), .inr (99, 0), .inr (99, 1), .inr (99, 2)]
def spX11_led : q_P := fun a w K => ∃ (tl : Nat) (hb : Bool) (td : Int32) (tr : Int32) (lf : Int32) (tx : Nat → Int32) (rb : Value) (N : NT) (B : BT) (R : RT) (L : LT) (G : GT) (B2 : BT) (R2 : RT) (L2 : LT) (G2 : GT) (P : PT) (W : WT) (S : ST) (Cc : CT) (Y : YT) (D : DT) (n : Nat) (f : Nat → Int64) (p x d i : Int32), w = (stripW 0 tl hb td tr lf tx rb N B R L G B2 R2 L2 G2 P W S Cc Y D) ++ [.inl (2, 1, .inr f)] ∧ a = [.ref 0, .int p, .int x, .int d, .int i] ∧ pOk P ∧ pPl P n ∧ rOk R ∧ rEnd R n ∧ L_n L ≤ 24 ∧ B.1 0 = nI n ∧ n ≤ 8 ∧ (if trvR B.1 P p x d = 0 then (if 0 ≤ i ∧ i < nI (ledT R (ledW P L R n p d W) x).1 then K (.inl (some (.int ((ledT R (ledW P L R n p d W) x).2 ((ledT R (ledW P L R n p d W) x).1 - 1 - i.toNatClampNeg))))) ((stripW 0 tl hb td tr lf tx rb N B R L G B2 R2 L2 G2 P (wTr (ledW P L R n p d W) (ledT R (ledW P L R n p d W) x).2) S Cc Y D) ++ [.inl (2, 1, .inr f)]) else K (.inr .null) ((stripW 0 tl hb td tr lf tx rb N B R L G B2 R2 L2 G2 P (wTr (ledW P L R n p d W) (ledT R (ledW P L R n p d W) x).2) S Cc Y D) ++ [.inl (2, 1, .inr f)])) else K (.inr .null) ((stripW 0 tl hb td tr lf tx rb N B R L G B2 R2 L2 G2 P W S Cc Y D) ++ [.inl (2, 1, .inr f)]))
abbrev csX11_led : q_S := (5, 11, 6, 6, 1, 6, fdX11_led, spX11_led)
theorem coX11_329 (l : Launch) : q_CO l RX11 329 csX10_trace := ⟨yX10_trace, cX10_trace, (some .int), 2, ⟨by decide +kernel, by decide +kernel, by decide +kernel⟩, q_G_i 12 (by decide +kernel) rfl, Or.inl ⟨by decide, rfl, rfl, q_G_i 1234 (by decide +kernel) rfl, q_G_i 1235 (by decide +kernel) rfl, q_G_i 1236 (by decide +kernel) rfl, Or.inl ⟨q_G_i 1237 (by decide +kernel) rfl, ctX10_trace l⟩⟩⟩
def EX11_led : q_E := (tX11_led, [(10, [0, 1, 2, 3, 4]), (63, [0, 1, 2, 3, 4, 5])], 6, flX11, [(215, csX11_travelRefusal), (219, csX10_findDays), (329, csX10_trace)], [], [], [(324, 21), (333, 22)], [], [], 6, 1, 6, (some .int), [], [], 0, 0)
theorem okX11_led (l : Launch) : q_Eok l RX11 cX11_led EX11_led := ⟨tX11_led_ok, flX11_ok, List.forall_mem_cons.mpr ⟨(coX11_215 l), List.forall_mem_cons.mpr ⟨(coX11_219 l), List.forall_mem_cons.mpr ⟨(coX11_329 l), q_nil⟩⟩⟩, q_nil, q_nil, List.forall_mem_cons.mpr ⟨⟨_, rfl, rfl, rfl⟩, List.forall_mem_cons.mpr ⟨⟨_, rfl, rfl, rfl⟩, q_nil⟩⟩, q_nil, q_nil, (fun h => absurd h (by decide))⟩
set_option maxRecDepth 100000 in
set_option maxHeartbeats 4000000 in
theorem ctX11_led (l : Launch) (hl : l.stackTraces = false) : q_CTX l yX11_led (.code yX11_led cX11_led 6 (some .int)) 6 1 6 spX11_led := by
  refine q_ct_ofX hl (by decide) rfl EX11_led (by decide +kernel) (okX11_led l) rfl rfl rfl rfl rfl q_nil (fun ci h => by cases h) rfl ?_
  intro a w K h
  obtain ⟨tl, hb, td, tr, lf, tx, rb, N, B, R, L, G, B2, R2, L2, G2, P, W, S, Cc, Y, D, n, f, p, x, d, i, rfl, rfl, ho, hpl, hro, hre, hL, hB, hn, hK⟩ := h
  refine ⟨Nat.le_of_ble_eq_true rfl, fun C hC hT => hC _ _ _ _ _ _ ?_⟩
  refine ⟨_, _, _, _, _, _, p, x, d, B.1, P, rfl, rfl, And.intro (fun c => ?_) (fun c => ?_)⟩
  · rw [if_pos c] at hK
    unfold ledW ledT at hK
    obtain ⟨c1, c2, c3⟩ := trvR_0 c
    obtain ⟨p, rfl, hp⟩ := inI (by have := ho.1; omega) c1
    obtain ⟨x, rfl, hx⟩ := toldI hB hn c2
    obtain ⟨y, hy, hyn⟩ := hpl p hp
    have hcp : (nI p).toNatClampNeg = p := nI_clamp (by have := ho.1; omega)
    have hcx : (nI x).toNatClampNeg = x := nI_clamp (by omega)
    have hcy : (nI y).toNatClampNeg = y := nI_clamp (by omega)
    rw [hcp, hy, hcy, hcx] at hK
    have h8 := trF_le R (findD P L R p n y d W) 8 0 x (findD P L R p n y d W).2.1
    refine ⟨P, R, L, B.1, _, W, n, p, y, d, rfl, rfl, ho, hro, hre, hL, hB, hn, hp, hy, by omega, ?_⟩
    refine ⟨R, findD P L R p n y d W, _, n, x, rfl, rfl, hro.1, hre, hn, byOk_findD, by omega, And.intro (fun c4 => ?_) (fun c4 => And.intro (fun c5 => ?_) (fun c5 => ?_))⟩
    · rw [if_neg (fun z => absurd c4 (Int32.not_lt.mpr z.1))] at hK
      exact hT 63 333 22 _ _ _ _ _ (by decide +kernel) (by decide +kernel) (by decide +kernel) (by decide +kernel) (by decide +kernel) rfl rfl rfl (by decide) (by decide) hK
    · have c5 : i < nI (trF R (findD P L R p n y d W) 8 0 x (findD P L R p n y d W).2.1).1 := c5
      rw [if_pos ⟨Int32.not_lt.mp c4, c5⟩] at hK
      generalize hq : trF R (findD P L R p n y d W) 8 0 x (findD P L R p n y d W).2.1 = q at *
      obtain ⟨j, rfl, hj⟩ := inI (x := i) (n := q.1) (by omega) ⟨Int32.not_lt.mp c4, c5⟩
      have e1 : nI q.1 - 1 - nI j = nI (q.1 - 1 - j) := by
        rw [show (1 : Int32) = nI 1 from rfl, nI_sb (by omega) (by omega), nI_sb (by omega) (by omega)]
      rw [nI_clamp (by omega)] at hK
      refine ⟨?_, ?_⟩
      · show vp_in (nI q.1 - 1 - nI j) 8
        rw [e1]; exact vp_in_nI (by omega) (by omega)
      · show K (.inl (some (.int (q.2 (nI q.1 - 1 - nI j).toNatClampNeg)))) _
        rw [e1, nI_clamp (by omega)]
        exact hK
    · have c5 : ¬ i < nI (trF R (findD P L R p n y d W) 8 0 x (findD P L R p n y d W).2.1).1 := c5
      rw [if_neg (fun z => c5 z.2)] at hK
      exact hT 63 333 22 _ _ _ _ _ (by decide +kernel) (by decide +kernel) (by decide +kernel) (by decide +kernel) (by decide +kernel) rfl rfl rfl (by decide) (by decide) hK
  · rw [if_neg c] at hK
    exact hT 10 324 21 _ _ _ _ _ (by decide +kernel) (by decide +kernel) (by decide +kernel) (by decide +kernel) (by decide +kernel) rfl rfl rfl (by decide) (by decide) hK
