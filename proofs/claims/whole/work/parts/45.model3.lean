
def tX14_pass : List q_I := [(0, .aload_n 0, 1, 0, 0), (1, .iconst 0, 1, 0, 0), (2, .putfield 123, 3, 0, 0), (5, .aload_n 0, 1, 0, 0), (6, .getfield 379, 3, 0, 0), (9, .ifnonnull 9, 3, 0, 18), (12, .aload_n 0, 1, 0, 0), (13, .iconst 1, 1, 1, 0), (14, .invokevirtual 365, 3, 0, 0), (17, .ireturn, 1, 0, 0), (18, .iload_n 1, 1, 0, 0), (19, .iconst 1, 1, 1, 0), (20, .sipush 400, 3, 400, 0), (23, .invokestatic 207, 3, 0, 0), (26, .ifCond .eq 15, 3, 0, 41), (29, .aload_n 0, 1, 0, 0), (30, .getfield 243, 3, 0, 0), (33, .iload_n 1, 1, 0, 0), (34, .iadd, 1, 0, 0), (35, .sipush 999, 3, 999, 0), (38, .if_icmp .le 9, 3, 0, 47), (41, .aload_n 0, 1, 0, 0), (42, .iconst 2, 1, 2, 0), (43, .invokevirtual 365, 3, 0, 0), (46, .ireturn, 1, 0, 0), (47, .aload_n 0, 1, 0, 0), (48, .dup, 1, 0, 0), (49, .getfield 243, 3, 0, 0), (52, .iload_n 1, 1, 0, 0), (53, .iadd, 1, 0, 0), (54, .putfield 243, 3, 0, 0), (57, .aload_n 0, 1, 0, 0), (58, .aload_n 0, 1, 0, 0), (59, .getfield 243, 3, 0, 0), (62, .invokevirtual 397, 3, 0, 0), (65, .ireturn, 1, 0, 0)]
theorem tX14_pass_ok : (tX14_pass.all (q_okI cX14_pass)) = true := by decide +kernel

abbrev fdX14_pass : List (Nat ⊕ (Nat × Nat)) := [.inl 0, .inr (0, 7), .inr (0, 17), .inr (0, 18), .inr (0, 19), .inr (0, 20), .inr (0, 21), .inr (0, 22), .inr (0, 23), .inr (0, 26), .inr (0, 27), .inr (0, 28), .inr (0, 31), .inr (0, 32), .inr (0, 33), .inr (0, 34), .inr (0, 36), .inr (0, 37), .inr (0, 38), .inr (0, 39), .inr (0, 40), .inr (0, 41), .inr (0, 43), .inr (0, 44), .inr (0, 45), .inr (0, 46), .inr (0, 47), .inr (0, 48), .inr (0, 50), .inr (0, 51), .inr (0, 52), .inr (0, 4), .inr (31, 0), .inr (31, 1), .inr (31, 2), .inr (31, 3), .inr (31, 8), .inr (31, 9), .inr (31, 10), .inr (31, 11), .inr (31, 12), .inr (31, 13), .inr (31, 14), .inr (31, 15), .inr (31, 16), .inr (31, 17), .inr (31, 18), .inr (31, 19), .inr (31, 20), .inr (31, 21), .inr (31, 22), .inr (31, 23), .inr (31, 24), .inr (31, 25), .inr (31, 26), .inr (31, 27), .inr (31, 28)]
def spX14_pass : q_P := fun a w K => ∃ (th : Int32) (tr : Int32) (wh : Int32) (fa : Int32) (ta : Nat) (sz : Int32) (ix : Int32) (so : Int32) (pl : Int32) (nu : Int32) (wd : Int64) (td : Int32) (mk : Int32) (mo : Int32) (tx : Nat → Int32) (P : PT) (D : DT) (ea : Nat → Int32) (pa : Nat → Int32) (co : Nat → Int32) (S : ST) (Cc : CT) (V : VT) (ba : Nat → Int32) (B : BT) (R : RT) (L : LT) (G : GT) (x : Int32), w = (modelW 0 (tk 0 5) (tk 0 6) th tr wh fa ta sz ix so pl nu wd td mk mo tx P D ea pa co S Cc V ba B R L G) ∧ a = [.ref 0, .int x] ∧ (if x < 1 ∨ 400 < x ∨ 999 < td + x then K (.inl (some (.int (-1)))) (modelW 0 (tk 0 5) (tk 0 6) (0) (2) (-1) fa ta sz ix so pl nu wd td mk mo tx P D ea pa co S Cc V ba B R L G) else K (.inl (some (.int (td + x)))) (modelW 0 (tk 0 5) (tk 0 6) (0) (0) (-1) fa ta sz ix so pl nu wd (td + x) mk mo tx P D ea pa co S Cc V ba B R L G))
abbrev csX14_pass : q_S := (2, 14, 1, 2, 0, 0, fdX14_pass, spX14_pass)
theorem coX14_365 (l : Launch) : q_CO l RX14 365 csX14_refused := ⟨yX14_refused, cX14_refused, (some .int), 1, ⟨by decide +kernel, by decide +kernel, by decide +kernel⟩, q_G_i 17 (by decide +kernel) rfl, Or.inl ⟨by decide, rfl, rfl, q_G_i 1446 (by decide +kernel) rfl, q_G_i 1448 (by decide +kernel) rfl, q_G_s (n := 53) 48 (by decide +kernel), Or.inl ⟨q_G_i 1449 (by decide +kernel) rfl, ctX14_refused l⟩⟩⟩
theorem coX14_397 (l : Launch) : q_CO l RX14 397 csX14_done := ⟨yX14_done, cX14_done, (some .int), 1, ⟨by decide +kernel, by decide +kernel, by decide +kernel⟩, q_G_i 17 (by decide +kernel) rfl, Or.inl ⟨by decide, rfl, rfl, q_G_i 1675 (by decide +kernel) rfl, q_G_i 1677 (by decide +kernel) rfl, q_G_s (n := 53) 65 (by decide +kernel), Or.inl ⟨q_G_i 1678 (by decide +kernel) rfl, ctX14_done l⟩⟩⟩
def EX14_pass : q_E := (tX14_pass, [], 2, flX14, [(365, csX14_refused), (207, csX14_in), (397, csX14_done)], [], [], [], [], [], 1, 0, 0, (some .int), [], [], 0, 0)
theorem okX14_pass (l : Launch) : q_Eok l RX14 cX14_pass EX14_pass := ⟨tX14_pass_ok, flX14_ok, List.forall_mem_cons.mpr ⟨(coX14_365 l), List.forall_mem_cons.mpr ⟨(coX14_207 l), List.forall_mem_cons.mpr ⟨(coX14_397 l), q_nil⟩⟩⟩, q_nil, q_nil, q_nil, q_nil, q_nil, (fun h => absurd h (by decide))⟩
set_option maxRecDepth 100000 in
set_option maxHeartbeats 4000000 in
theorem ctX14_pass (l : Launch) : q_CT l yX14_pass (.code yX14_pass cX14_pass 2 (some .int)) 1 0 0 spX14_pass := by
  refine q_ct_of EX14_pass (by decide +kernel) (okX14_pass l) rfl rfl rfl rfl rfl q_nil (fun ci h => by cases h) rfl ?_
  intro a w K h
  obtain ⟨th, tr, wh, fa, ta, sz, ix, so, pl, nu, wd, td, mk, mo, tx, P, D, ea, pa, co, S, Cc, V, ba, B, R, L, G, x, rfl, rfl, hK⟩ := h
  refine ⟨Nat.le_of_ble_eq_true rfl, fun C hC => hC _ _ _ _ _ _ ?_⟩
  refine ⟨x, 1, 400, rfl, rfl, And.intro (fun c2 => ?_) (fun c2 => And.intro (fun c3 => ?_) (fun c3 => ?_))⟩
  · have c2 := of_decide_eq_false (bI_0.mp c2)
    rw [if_pos (by
      rcases Int32.lt_or_le x 1 with z | z
      · exact Or.inl z
      · rcases Int32.lt_or_le 400 x with y | y
        · exact Or.inr (Or.inl y)
        · exact absurd ⟨z, y⟩ c2)] at hK
    exact ⟨_, _, _, _, _, _, _, _, _, _, _, _, _, _, _, _, _, _, _, _, _, _, _, _, rfl, rfl, hK⟩
  · have c2 := of_decide_eq_true (bI_n0.mp c2)
    rw [if_neg (fun z => z.elim (Int32.not_lt.mpr c2.1) (fun z => z.elim (Int32.not_lt.mpr c2.2) (Int32.not_lt.mpr c3)))] at hK
    exact ⟨_, _, _, _, _, _, _, _, _, _, _, _, _, _, _, _, _, _, _, _, _, _, _, _, rfl, rfl, hK⟩
  · rw [if_pos (Or.inr (Or.inr (Int32.not_le.mp c3)))] at hK
    exact ⟨_, _, _, _, _, _, _, _, _, _, _, _, _, _, _, _, _, _, _, _, _, _, _, _, rfl, rfl, hK⟩
def tX14_takes : List q_I := [(0, .aload_n 0, 1, 0, 0), (1, .iconst 0, 1, 0, 0), (2, .putfield 123, 3, 0, 0), (5, .aload_n 0, 1, 0, 0), (6, .iconst 1, 1, 1, 0), (7, .iload_n 1, 1, 0, 0), (8, .invokevirtual 407, 3, 0, 0), (11, .ifCond .eq 21, 3, 0, 32), (14, .aload_n 0, 1, 0, 0), (15, .iconst 3, 1, 3, 0), (16, .iload_n 2, 1, 0, 0), (17, .invokevirtual 407, 3, 0, 0), (20, .ifCond .eq 12, 3, 0, 32), (23, .aload_n 0, 1, 0, 0), (24, .iconst 2, 1, 2, 0), (25, .iload_n 3, 1, 0, 0), (26, .invokevirtual 407, 3, 0, 0), (29, .ifCond .ne 9, 3, 0, 38), (32, .aload_n 0, 1, 0, 0), (33, .iconst 1, 1, 1, 0), (34, .invokevirtual 365, 3, 0, 0), (37, .ireturn, 1, 0, 0), (38, .iload 4, 2, 0, 0), (40, .invokestatic 411, 3, 0, 0), (43, .ifCond .eq 11, 3, 0, 54), (46, .iload 5, 2, 0, 0), (48, .invokestatic 411, 3, 0, 0), (51, .ifCond .ne 9, 3, 0, 60), (54, .aload_n 0, 1, 0, 0), (55, .iconst 2, 1, 2, 0), (56, .invokevirtual 365, 3, 0, 0), (59, .ireturn, 1, 0, 0), (60, .aload_n 0, 1, 0, 0), (61, .iload_n 1, 1, 0, 0), (62, .iload_n 2, 1, 0, 0), (63, .iload_n 3, 1, 0, 0), (64, .iload 4, 2, 0, 0), (66, .iload 5, 2, 0, 0), (68, .invokevirtual 403, 3, 0, 0), (71, .istore 6, 2, 0, 0), (73, .aload_n 0, 1, 0, 0), (74, .iload 6, 2, 0, 0), (76, .iconst (-1), 1, (-1), 0), (77, .if_icmp .eq 20, 3, 0, 97), (80, .aload_n 0, 1, 0, 0), (81, .getfield 379, 3, 0, 0), (84, .getfield 300, 3, 0, 0), (87, .iload 6, 2, 0, 0), (89, .baload, 1, 0, 0), (90, .ifCond .eq 7, 3, 0, 97), (93, .iconst 1, 1, 1, 0), (94, .goto 4, 3, 0, 98), (97, .iconst 0, 1, 0, 0), (98, .invokevirtual 397, 3, 0, 0), (101, .ireturn, 1, 0, 0)]
theorem tX14_takes_ok : (tX14_takes.all (q_okI cX14_takes)) = true := by decide +kernel

abbrev fdX14_takes : List (Nat ⊕ (Nat × Nat)) := [.inl 0, .inr (0, 7), .inr (0, 17), .inr (0, 18), .inr (0, 19), .inr (0, 20), .inr (0, 21), .inr (0, 22), .inr (0, 23), .inr (0, 26), .inr (0, 27), .inr (0, 28), .inr (0, 31), .inr (0, 32), .inr (0, 33), .inr (0, 34), .inr (0, 36), .inr (0, 37), .inr (0, 38), .inr (0, 39), .inr (0, 40), .inr (0, 41), .inr (0, 43), .inr (0, 44), .inr (0, 45), .inr (0, 46), .inr (0, 47), .inr (0, 48), .inr (0, 50), .inr (0, 51), .inr (0, 52), .inr (0, 4), .inr (31, 0), .inr (31, 1), .inr (31, 2), .inr (31, 3), .inr (31, 8), .inr (31, 9), .inr (31, 10), .inr (31, 11), .inr (31, 12), .inr (31, 13), .inr (31, 14), .inr (31, 15), .inr (31, 16), .inr (31, 17), .inr (31, 18), .inr (31, 19), .inr (31, 20), .inr (31, 21), .inr (31, 22), .inr (31, 23), .inr (31, 24), .inr (31, 25), .inr (31, 26), .inr (31, 27), .inr (31, 28)]
def spX14_takes : q_P := fun a w K => ∃ (th : Int32) (tr : Int32) (wh : Int32) (fa : Int32) (ta : Nat) (sz : Int32) (ix : Int32) (so : Int32) (pl : Int32) (nu : Int32) (wd : Int64) (td : Int32) (mk : Int32) (mo : Int32) (tx : Nat → Int32) (P : PT) (D : DT) (ea : Nat → Int32) (pa : Nat → Int32) (co : Nat → Int32) (S : ST) (Cc : CT) (V : VT) (ba : Nat → Int32) (B : BT) (R : RT) (L : LT) (G : GT) (ld kd o d kn : Int32), w = (modelW 0 (tk 0 5) (tk 0 6) th tr wh fa ta sz ix so pl nu wd td mk mo tx P D ea pa co S Cc V ba B R L G) ∧ a = [.ref 0, .int ld, .int kd, .int o, .int d, .int kn] ∧ L_n L ≤ 24 ∧ (if rulR B.1 ld kd o d kn = 0 then K (.inl (some (.int (bI (saysT L (ruling L ld kd o d kn)))))) (modelW 0 (tk 0 5) (tk 0 6) (0) (0) (-1) fa ta sz ix so pl nu wd td mk mo tx P D ea pa co S Cc V ba B R L G) else K (.inl (some (.int (-1)))) (modelW 0 (tk 0 5) (tk 0 6) (0) (rulR B.1 ld kd o d kn) (-1) fa ta sz ix so pl nu wd td mk mo tx P D ea pa co S Cc V ba B R L G))
abbrev csX14_takes : q_S := (6, 14, 2, 7, 0, 0, fdX14_takes, spX14_takes)
theorem coX14_407 (l : Launch) : q_CO l RX14 407 csX14_isOf := ⟨yX14_isOf, cX14_isOf, (some .boolean), 2, ⟨by decide +kernel, by decide +kernel, by decide +kernel⟩, q_G_i 17 (by decide +kernel) rfl, Or.inl ⟨by decide, rfl, rfl, q_G_i 1703 (by decide +kernel) rfl, q_G_i 1705 (by decide +kernel) rfl, q_G_s (n := 53) 67 (by decide +kernel), Or.inl ⟨q_G_i 1706 (by decide +kernel) rfl, ctX14_isOf l⟩⟩⟩
theorem coX14_411 (l : Launch) : q_CO l RX14 411 csX14_isDay := ⟨yX14_isDay, cX14_isDay, (some .boolean), 1, ⟨by decide +kernel, by decide +kernel, by decide +kernel⟩, q_G_i 17 (by decide +kernel) rfl, Or.inr (Or.inr (Or.inr ⟨rfl, rfl, q_G_i 1707 (by decide +kernel) rfl, q_G_i 1708 (by decide +kernel) rfl, Or.inl ⟨q_G_i 1709 (by decide +kernel) rfl, ctX14_isDay l⟩⟩))⟩
def EX14_takes : q_E := (tX14_takes, [], 7, flX14, [(407, csX14_isOf), (365, csX14_refused), (411, csX14_isDay), (403, csX14_lawOf), (397, csX14_done)], [], [], [], [], [], 2, 0, 0, (some .int), [], [], 0, 0)
theorem okX14_takes (l : Launch) : q_Eok l RX14 cX14_takes EX14_takes := ⟨tX14_takes_ok, flX14_ok, List.forall_mem_cons.mpr ⟨(coX14_407 l), List.forall_mem_cons.mpr ⟨(coX14_365 l), List.forall_mem_cons.mpr ⟨(coX14_411 l), List.forall_mem_cons.mpr ⟨(coX14_403 l), List.forall_mem_cons.mpr ⟨(coX14_397 l), q_nil⟩⟩⟩⟩⟩, q_nil, q_nil, q_nil, q_nil, q_nil, (fun h => absurd h (by decide))⟩
set_option maxRecDepth 100000 in
set_option maxHeartbeats 4000000 in
theorem ctX14_takes (l : Launch) : q_CT l yX14_takes (.code yX14_takes cX14_takes 7 (some .int)) 2 0 0 spX14_takes := by
  refine q_ct_of EX14_takes (by decide +kernel) (okX14_takes l) rfl rfl rfl rfl rfl q_nil (fun ci h => by cases h) rfl ?_
  intro a w K h
  obtain ⟨th, tr, wh, fa, ta, sz, ix, so, pl, nu, wd, td, mk, mo, tx, P, D, ea, pa, co, S, Cc, V, ba, B, R, L, G, ld, kd, o, d, kn, rfl, rfl, hL, hK⟩ := h
  refine ⟨Nat.le_of_ble_eq_true rfl, fun C hC => hC _ _ _ _ _ _ ?_⟩
  refine ⟨_, _, _, _, _, _, _, _, _, _, _, _, _, _, _, _, _, _, _, _, _, _, _, _, 1, ld, rfl, rfl, by decide, And.intro (fun c => ?_) (fun c => ⟨_, _, _, _, _, _, _, _, _, _, _, _, _, _, _, _, _, _, _, _, _, _, _, _, 3, kd, rfl, rfl, by decide, And.intro (fun c2 => ?_) (fun c2 => ⟨_, _, _, _, _, _, _, _, _, _, _, _, _, _, _, _, _, _, _, _, _, _, _, _, 2, o, rfl, rfl, by decide, And.intro (fun c3 => ?_) (fun c3 => ?_)⟩)⟩)⟩
  · rw [show rulR B.1 ld kd o d kn = 1 by unfold rulR; rw [bI_0.mp c]; rfl] at hK
    exact ⟨_, _, _, _, _, _, _, _, _, _, _, _, _, _, _, _, _, _, _, _, _, _, _, _, rfl, rfl, hK⟩
  · rw [show rulR B.1 ld kd o d kn = 1 by unfold rulR sortB; rw [bI_0.mp c2, Bool.false_and, Bool.and_false]; rfl] at hK
    exact ⟨_, _, _, _, _, _, _, _, _, _, _, _, _, _, _, _, _, _, _, _, _, _, _, _, rfl, rfl, hK⟩
  · have e : rulR B.1 ld kd o d kn = if dayB d && dayB kn then 0 else 2 := by unfold rulR sortB; rw [bI_n0.mp c, bI_n0.mp c2, bI_n0.mp c3]; rfl
    refine ⟨d, rfl, rfl, And.intro (fun c4 => ?_) (fun c4 => ⟨kn, rfl, rfl, And.intro (fun c5 => ?_) (fun c5 => ?_)⟩)⟩
    · rw [bI_0.mp c4, Bool.false_and] at e
      rw [e] at hK
      exact ⟨_, _, _, _, _, _, _, _, _, _, _, _, _, _, _, _, _, _, _, _, _, _, _, _, rfl, rfl, hK⟩
    · rw [bI_n0.mp c4, bI_n0.mp c5] at e
      have e : rulR B.1 ld kd o d kn = 0 := e
      rw [if_pos e] at hK
      refine ⟨_, _, _, _, _, _, _, _, _, _, _, _, _, _, _, _, _, _, _, _, _, _, _, _, _, _, _, _, _, rfl, rfl, hL, ?_⟩
      rcases hr : ruling L ld kd o d kn with _ | i
      · rw [hr] at hK
        exact And.intro (fun _ => ⟨_, _, _, _, _, _, _, _, _, _, _, _, _, _, _, _, _, _, _, _, _, _, _, _, rfl, rfl, hK⟩) (fun c => absurd rfl c)
      · rw [hr, saysT] at hK
        have hi := rulO_lt hr
        have hc : (oI (some i)).toNatClampNeg = i := nI_clamp (by omega)
        refine And.intro (fun c => absurd c (nI_nm1 (by omega))) (fun _ => ⟨vp_in_nI (by omega) (by omega), And.intro (fun c => ?_) (fun c => ?_)⟩)
        · rw [hc] at c
          rw [bI_f (fun z => z c)] at hK; exact ⟨_, _, _, _, _, _, _, _, _, _, _, _, _, _, _, _, _, _, _, _, _, _, _, _, rfl, rfl, hK⟩
        · rw [hc] at c
          rw [bI_t c] at hK; exact ⟨_, _, _, _, _, _, _, _, _, _, _, _, _, _, _, _, _, _, _, _, _, _, _, _, rfl, rfl, hK⟩
    · rw [bI_n0.mp c4, bI_0.mp c5] at e
      rw [e] at hK
      exact ⟨_, _, _, _, _, _, _, _, _, _, _, _, _, _, _, _, _, _, _, _, _, _, _, _, rfl, rfl, hK⟩
  · rw [show rulR B.1 ld kd o d kn = 1 by unfold rulR sortB; rw [bI_0.mp c3, Bool.and_false, Bool.and_false]; rfl] at hK
    exact ⟨_, _, _, _, _, _, _, _, _, _, _, _, _, _, _, _, _, _, _, _, _, _, _, _, rfl, rfl, hK⟩
def tX14_why : List q_I := [(0, .aload_n 0, 1, 0, 0), (1, .iconst 0, 1, 0, 0), (2, .putfield 123, 3, 0, 0), (5, .aload_n 0, 1, 0, 0), (6, .iconst 1, 1, 1, 0), (7, .iload_n 1, 1, 0, 0), (8, .invokevirtual 407, 3, 0, 0), (11, .ifCond .eq 21, 3, 0, 32), (14, .aload_n 0, 1, 0, 0), (15, .iconst 3, 1, 3, 0), (16, .iload_n 2, 1, 0, 0), (17, .invokevirtual 407, 3, 0, 0), (20, .ifCond .eq 12, 3, 0, 32), (23, .aload_n 0, 1, 0, 0), (24, .iconst 2, 1, 2, 0), (25, .iload_n 3, 1, 0, 0), (26, .invokevirtual 407, 3, 0, 0), (29, .ifCond .ne 9, 3, 0, 38), (32, .aload_n 0, 1, 0, 0), (33, .iconst 1, 1, 1, 0), (34, .invokevirtual 365, 3, 0, 0), (37, .ireturn, 1, 0, 0), (38, .iload 4, 2, 0, 0), (40, .invokestatic 411, 3, 0, 0), (43, .ifCond .eq 11, 3, 0, 54), (46, .iload 5, 2, 0, 0), (48, .invokestatic 411, 3, 0, 0), (51, .ifCond .ne 9, 3, 0, 60), (54, .aload_n 0, 1, 0, 0), (55, .iconst 2, 1, 2, 0), (56, .invokevirtual 365, 3, 0, 0), (59, .ireturn, 1, 0, 0), (60, .aload_n 0, 1, 0, 0), (61, .iload_n 1, 1, 0, 0), (62, .iload_n 2, 1, 0, 0), (63, .iload_n 3, 1, 0, 0), (64, .iload 4, 2, 0, 0), (66, .iload 5, 2, 0, 0), (68, .invokevirtual 403, 3, 0, 0), (71, .istore 6, 2, 0, 0), (73, .aload_n 0, 1, 0, 0), (74, .iload 6, 2, 0, 0), (76, .iconst (-1), 1, (-1), 0), (77, .if_icmp .ne 8, 3, 0, 85), (80, .bipush (-2), 2, (-2), 0), (82, .goto 5, 3, 0, 87), (85, .iload 6, 2, 0, 0), (87, .invokevirtual 397, 3, 0, 0), (90, .ireturn, 1, 0, 0)]
theorem tX14_why_ok : (tX14_why.all (q_okI cX14_why)) = true := by decide +kernel

abbrev fdX14_why : List (Nat ⊕ (Nat × Nat)) := [.inl 0, .inr (0, 7), .inr (0, 17), .inr (0, 18), .inr (0, 19), .inr (0, 20), .inr (0, 21), .inr (0, 22), .inr (0, 23), .inr (0, 26), .inr (0, 27), .inr (0, 28), .inr (0, 31), .inr (0, 32), .inr (0, 33), .inr (0, 34), .inr (0, 36), .inr (0, 37), .inr (0, 38), .inr (0, 39), .inr (0, 40), .inr (0, 41), .inr (0, 43), .inr (0, 44), .inr (0, 45), .inr (0, 46), .inr (0, 47), .inr (0, 48), .inr (0, 50), .inr (0, 51), .inr (0, 52), .inr (0, 4), .inr (31, 0), .inr (31, 1), .inr (31, 2), .inr (31, 3), .inr (31, 8), .inr (31, 9), .inr (31, 10), .inr (31, 11), .inr (31, 12), .inr (31, 13), .inr (31, 14), .inr (31, 15), .inr (31, 16), .inr (31, 17), .inr (31, 18), .inr (31, 19), .inr (31, 20), .inr (31, 21), .inr (31, 22), .inr (31, 23), .inr (31, 24), .inr (31, 25), .inr (31, 26), .inr (31, 27), .inr (31, 28)]
def spX14_why : q_P := fun a w K => ∃ (th : Int32) (tr : Int32) (wh : Int32) (fa : Int32) (ta : Nat) (sz : Int32) (ix : Int32) (so : Int32) (pl : Int32) (nu : Int32) (wd : Int64) (td : Int32) (mk : Int32) (mo : Int32) (tx : Nat → Int32) (P : PT) (D : DT) (ea : Nat → Int32) (pa : Nat → Int32) (co : Nat → Int32) (S : ST) (Cc : CT) (V : VT) (ba : Nat → Int32) (B : BT) (R : RT) (L : LT) (G : GT) (ld kd o d kn : Int32), w = (modelW 0 (tk 0 5) (tk 0 6) th tr wh fa ta sz ix so pl nu wd td mk mo tx P D ea pa co S Cc V ba B R L G) ∧ a = [.ref 0, .int ld, .int kd, .int o, .int d, .int kn] ∧ L_n L ≤ 24 ∧ (if rulR B.1 ld kd o d kn = 0 then K (.inl (some (.int (whyI (ruling L ld kd o d kn))))) (modelW 0 (tk 0 5) (tk 0 6) (0) (0) (-1) fa ta sz ix so pl nu wd td mk mo tx P D ea pa co S Cc V ba B R L G) else K (.inl (some (.int (-1)))) (modelW 0 (tk 0 5) (tk 0 6) (0) (rulR B.1 ld kd o d kn) (-1) fa ta sz ix so pl nu wd td mk mo tx P D ea pa co S Cc V ba B R L G))
abbrev csX14_why : q_S := (6, 14, 2, 7, 0, 0, fdX14_why, spX14_why)
def EX14_why : q_E := (tX14_why, [], 7, flX14, [(407, csX14_isOf), (365, csX14_refused), (411, csX14_isDay), (403, csX14_lawOf), (397, csX14_done)], [], [], [], [], [], 2, 0, 0, (some .int), [], [], 0, 0)
theorem okX14_why (l : Launch) : q_Eok l RX14 cX14_why EX14_why := ⟨tX14_why_ok, flX14_ok, List.forall_mem_cons.mpr ⟨(coX14_407 l), List.forall_mem_cons.mpr ⟨(coX14_365 l), List.forall_mem_cons.mpr ⟨(coX14_411 l), List.forall_mem_cons.mpr ⟨(coX14_403 l), List.forall_mem_cons.mpr ⟨(coX14_397 l), q_nil⟩⟩⟩⟩⟩, q_nil, q_nil, q_nil, q_nil, q_nil, (fun h => absurd h (by decide))⟩
set_option maxRecDepth 100000 in
set_option maxHeartbeats 4000000 in
theorem ctX14_why (l : Launch) : q_CT l yX14_why (.code yX14_why cX14_why 7 (some .int)) 2 0 0 spX14_why := by
  refine q_ct_of EX14_why (by decide +kernel) (okX14_why l) rfl rfl rfl rfl rfl q_nil (fun ci h => by cases h) rfl ?_
  intro a w K h
  obtain ⟨th, tr, wh, fa, ta, sz, ix, so, pl, nu, wd, td, mk, mo, tx, P, D, ea, pa, co, S, Cc, V, ba, B, R, L, G, ld, kd, o, d, kn, rfl, rfl, hL, hK⟩ := h
  refine ⟨Nat.le_of_ble_eq_true rfl, fun C hC => hC _ _ _ _ _ _ ?_⟩
  refine ⟨_, _, _, _, _, _, _, _, _, _, _, _, _, _, _, _, _, _, _, _, _, _, _, _, 1, ld, rfl, rfl, by decide, And.intro (fun c => ?_) (fun c => ⟨_, _, _, _, _, _, _, _, _, _, _, _, _, _, _, _, _, _, _, _, _, _, _, _, 3, kd, rfl, rfl, by decide, And.intro (fun c2 => ?_) (fun c2 => ⟨_, _, _, _, _, _, _, _, _, _, _, _, _, _, _, _, _, _, _, _, _, _, _, _, 2, o, rfl, rfl, by decide, And.intro (fun c3 => ?_) (fun c3 => ?_)⟩)⟩)⟩
  · rw [show rulR B.1 ld kd o d kn = 1 by unfold rulR; rw [bI_0.mp c]; rfl] at hK
    exact ⟨_, _, _, _, _, _, _, _, _, _, _, _, _, _, _, _, _, _, _, _, _, _, _, _, rfl, rfl, hK⟩
  · rw [show rulR B.1 ld kd o d kn = 1 by unfold rulR sortB; rw [bI_0.mp c2, Bool.false_and, Bool.and_false]; rfl] at hK
    exact ⟨_, _, _, _, _, _, _, _, _, _, _, _, _, _, _, _, _, _, _, _, _, _, _, _, rfl, rfl, hK⟩
  · have e : rulR B.1 ld kd o d kn = if dayB d && dayB kn then 0 else 2 := by unfold rulR sortB; rw [bI_n0.mp c, bI_n0.mp c2, bI_n0.mp c3]; rfl
    refine ⟨d, rfl, rfl, And.intro (fun c4 => ?_) (fun c4 => ⟨kn, rfl, rfl, And.intro (fun c5 => ?_) (fun c5 => ?_)⟩)⟩
    · rw [bI_0.mp c4, Bool.false_and] at e
      rw [e] at hK
      exact ⟨_, _, _, _, _, _, _, _, _, _, _, _, _, _, _, _, _, _, _, _, _, _, _, _, rfl, rfl, hK⟩
    · rw [bI_n0.mp c4, bI_n0.mp c5] at e
      have e : rulR B.1 ld kd o d kn = 0 := e
      rw [if_pos e] at hK
      refine ⟨_, _, _, _, _, _, _, _, _, _, _, _, _, _, _, _, _, _, _, _, _, _, _, _, _, _, _, _, _, rfl, rfl, hL, And.intro (fun c6 => ?_) (fun c6 => ?_)⟩
      · rw [whyI, if_neg c6] at hK
        exact ⟨_, _, _, _, _, _, _, _, _, _, _, _, _, _, _, _, _, _, _, _, _, _, _, _, rfl, rfl, hK⟩
      · rw [whyI, if_pos c6] at hK
        exact ⟨_, _, _, _, _, _, _, _, _, _, _, _, _, _, _, _, _, _, _, _, _, _, _, _, rfl, rfl, hK⟩
    · rw [bI_n0.mp c4, bI_0.mp c5] at e
      rw [e] at hK
      exact ⟨_, _, _, _, _, _, _, _, _, _, _, _, _, _, _, _, _, _, _, _, _, _, _, _, rfl, rfl, hK⟩
  · rw [show rulR B.1 ld kd o d kn = 1 by unfold rulR sortB; rw [bI_0.mp c3, Bool.and_false, Bool.and_false]; rfl] at hK
    exact ⟨_, _, _, _, _, _, _, _, _, _, _, _, _, _, _, _, _, _, _, _, _, _, _, _, rfl, rfl, hK⟩
theorem nI_ne {a b : Nat} (h : a ≠ b) (ha : a < 2 ^ 31) (hb : b < 2 ^ 31) : ¬ nI a = nI b := fun z => by
  have h1 := congrArg Int32.toInt z
  rw [nI_toInt ha, nI_toInt hb] at h1
  omega
def tX14_person : List q_I := [(0, .aload_n 0, 1, 0, 0), (1, .iconst 0, 1, 0, 0), (2, .putfield 123, 3, 0, 0), (5, .aload_n 0, 1, 0, 0), (6, .iconst 0, 1, 0, 0), (7, .iload_n 1, 1, 0, 0), (8, .invokevirtual 407, 3, 0, 0), (11, .ifCond .ne 9, 3, 0, 20), (14, .aload_n 0, 1, 0, 0), (15, .iconst 1, 1, 1, 0), (16, .invokevirtual 365, 3, 0, 0), (19, .ireturn, 1, 0, 0), (20, .aload_n 0, 1, 0, 0), (21, .getfield 382, 3, 0, 0), (24, .bipush 30, 2, 30, 0), (26, .if_icmp .ne 11, 3, 0, 37), (29, .aload_n 0, 1, 0, 0), (30, .iconst 3, 1, 3, 0), (31, .invokevirtual 365, 3, 0, 0), (34, .goto 12, 3, 0, 46), (37, .aload_n 0, 1, 0, 0), (38, .aload_n 0, 1, 0, 0), (39, .iload_n 1, 1, 0, 0), (40, .invokevirtual 414, 3, 0, 0), (43, .invokevirtual 397, 3, 0, 0), (46, .ireturn, 1, 0, 0)]
theorem tX14_person_ok : (tX14_person.all (q_okI cX14_person)) = true := by decide +kernel

abbrev fdX14_person : List (Nat ⊕ (Nat × Nat)) := [.inl 0, .inr (0, 7), .inr (0, 17), .inr (0, 18), .inr (0, 19), .inr (0, 20), .inr (0, 21), .inr (0, 22), .inr (0, 23), .inr (0, 26), .inr (0, 27), .inr (0, 28), .inr (0, 31), .inr (0, 32), .inr (0, 33), .inr (0, 34), .inr (0, 36), .inr (0, 37), .inr (0, 38), .inr (0, 39), .inr (0, 40), .inr (0, 41), .inr (0, 43), .inr (0, 44), .inr (0, 45), .inr (0, 46), .inr (0, 47), .inr (0, 48), .inr (0, 50), .inr (0, 51), .inr (0, 52), .inr (0, 4), .inr (31, 0), .inr (31, 1), .inr (31, 2), .inr (31, 3), .inr (31, 8), .inr (31, 9), .inr (31, 10), .inr (31, 11), .inr (31, 12), .inr (31, 13), .inr (31, 14), .inr (31, 15), .inr (31, 16), .inr (31, 17), .inr (31, 18), .inr (31, 19), .inr (31, 20), .inr (31, 21), .inr (31, 22), .inr (31, 23), .inr (31, 24), .inr (31, 25), .inr (31, 26), .inr (31, 27), .inr (31, 28)]
def spX14_person : q_P := fun a w K => ∃ (th : Int32) (tr : Int32) (wh : Int32) (fa : Int32) (ta : Nat) (sz : Int32) (ix : Int32) (so : Int32) (pl : Int32) (nu : Int32) (wd : Int64) (td : Int32) (mk : Int32) (mo : Int32) (tx : Nat → Int32) (P : PT) (D : DT) (ea : Nat → Int32) (pa : Nat → Int32) (co : Nat → Int32) (S : ST) (Cc : CT) (V : VT) (ba : Nat → Int32) (B : BT) (R : RT) (L : LT) (G : GT) (x : Int32), w = (modelW 0 (tk 0 5) (tk 0 6) th tr wh fa ta sz ix so pl nu wd td mk mo tx P D ea pa co S Cc V ba B R L G) ∧ a = [.ref 0, .int x] ∧ P.2.2.2.2.2.2 ≤ 30 ∧ (if toldB B.1 0 x = true then (if P.2.2.2.2.2.2 < 30 then K (.inl (some (.int (nI P.2.2.2.2.2.2)))) (modelW 0 (tk 0 5) (tk 0 6) (0) (0) (-1) fa ta sz ix so pl nu wd td mk mo tx (peopleAdd P x) ((D.1, D.2.1, vp_updL D.2.2.1 P.2.2.2.2.2.2 0, D.2.2.2)) ea pa co S Cc V ba B R L G) else K (.inl (some (.int (-1)))) (modelW 0 (tk 0 5) (tk 0 6) (0) (3) (-1) fa ta sz ix so pl nu wd td mk mo tx P D ea pa co S Cc V ba B R L G)) else K (.inl (some (.int (-1)))) (modelW 0 (tk 0 5) (tk 0 6) (0) (1) (-1) fa ta sz ix so pl nu wd td mk mo tx P D ea pa co S Cc V ba B R L G))
abbrev csX14_person : q_S := (2, 14, 1, 2, 0, 0, fdX14_person, spX14_person)
theorem coX14_414 (l : Launch) : q_CO l RX14 414 csX14_comes := ⟨yX14_comes, cX14_comes, (some .int), 1, ⟨by decide +kernel, by decide +kernel, by decide +kernel⟩, q_G_i 17 (by decide +kernel) rfl, Or.inl ⟨by decide, rfl, rfl, q_G_i 1722 (by decide +kernel) rfl, q_G_i 1724 (by decide +kernel) rfl, q_G_s (n := 53) 69 (by decide +kernel), Or.inl ⟨q_G_i 1725 (by decide +kernel) rfl, ctX14_comes l⟩⟩⟩
def EX14_person : q_E := (tX14_person, [], 2, flX14, [(407, csX14_isOf), (365, csX14_refused), (414, csX14_comes), (397, csX14_done)], [], [], [], [], [], 1, 0, 0, (some .int), [], [], 0, 0)
theorem okX14_person (l : Launch) : q_Eok l RX14 cX14_person EX14_person := ⟨tX14_person_ok, flX14_ok, List.forall_mem_cons.mpr ⟨(coX14_407 l), List.forall_mem_cons.mpr ⟨(coX14_365 l), List.forall_mem_cons.mpr ⟨(coX14_414 l), List.forall_mem_cons.mpr ⟨(coX14_397 l), q_nil⟩⟩⟩⟩, q_nil, q_nil, q_nil, q_nil, q_nil, (fun h => absurd h (by decide))⟩
set_option maxRecDepth 100000 in
set_option maxHeartbeats 4000000 in
theorem ctX14_person (l : Launch) : q_CT l yX14_person (.code yX14_person cX14_person 2 (some .int)) 1 0 0 spX14_person := by
  refine q_ct_of EX14_person (by decide +kernel) (okX14_person l) rfl rfl rfl rfl rfl q_nil (fun ci h => by cases h) rfl ?_
  intro a w K h
  obtain ⟨th, tr, wh, fa, ta, sz, ix, so, pl, nu, wd, td, mk, mo, tx, P, D, ea, pa, co, S, Cc, V, ba, B, R, L, G, x, rfl, rfl, hP, hK⟩ := h
  refine ⟨Nat.le_of_ble_eq_true rfl, fun C hC => hC _ _ _ _ _ _ ?_⟩
  refine ⟨_, _, _, _, _, _, _, _, _, _, _, _, _, _, _, _, _, _, _, _, _, _, _, _, 0, x, rfl, rfl, by decide, And.intro (fun c => ?_) (fun c => ?_)⟩
  · rw [if_pos (bI_n0.mp c)] at hK
    refine And.intro (fun c2 => ?_) (fun c2 => ?_)
    · have h9 : P.2.2.2.2.2.2 < 30 := by
        rcases Nat.lt_or_ge P.2.2.2.2.2.2 30 with z | z
        · exact z
        · exact absurd (show nI P.2.2.2.2.2.2 = nI 30 by rw [Nat.le_antisymm hP z]) c2
      rw [if_pos h9] at hK
      exact ⟨_, _, _, _, _, _, _, _, _, _, _, _, _, _, _, _, _, _, _, _, _, _, _, _, _, _, _, _, x, rfl, rfl, h9, _, _, _, _, _, _, _, _, _, _, _, _, _, _, _, _, _, _, _, _, _, _, _, _, rfl, rfl, hK⟩
    · rw [if_neg (c := P.2.2.2.2.2.2 < 30) (fun z => nI_ne (b := 30) (by omega) (by omega) (by omega) c2)] at hK
      exact ⟨_, _, _, _, _, _, _, _, _, _, _, _, _, _, _, _, _, _, _, _, _, _, _, _, rfl, rfl, hK⟩
  · rw [if_neg (by rw [bI_0.mp c]; decide)] at hK
    exact ⟨_, _, _, _, _, _, _, _, _, _, _, _, _, _, _, _, _, _, _, _, _, _, _, _, rfl, rfl, hK⟩
def tX14_paper : List q_I := [(0, .aload_n 0, 1, 0, 0), (1, .iconst 0, 1, 0, 0), (2, .putfield 123, 3, 0, 0), (5, .aload_n 0, 1, 0, 0), (6, .iload_n 1, 1, 0, 0), (7, .invokevirtual 417, 3, 0, 0), (10, .ifCond .eq 21, 3, 0, 31), (13, .aload_n 0, 1, 0, 0), (14, .iconst 3, 1, 3, 0), (15, .iload_n 2, 1, 0, 0), (16, .invokevirtual 407, 3, 0, 0), (19, .ifCond .eq 12, 3, 0, 31), (22, .aload_n 0, 1, 0, 0), (23, .iconst 2, 1, 2, 0), (24, .iload_n 3, 1, 0, 0), (25, .invokevirtual 407, 3, 0, 0), (28, .ifCond .ne 9, 3, 0, 37), (31, .aload_n 0, 1, 0, 0), (32, .iconst 1, 1, 1, 0), (33, .invokevirtual 365, 3, 0, 0), (36, .ireturn, 1, 0, 0), (37, .iload 4, 2, 0, 0), (39, .invokestatic 411, 3, 0, 0), (42, .ifCond .eq 18, 3, 0, 60), (45, .iload 5, 2, 0, 0), (47, .invokestatic 411, 3, 0, 0), (50, .ifCond .eq 10, 3, 0, 60), (53, .iload 5, 2, 0, 0), (55, .iload 4, 2, 0, 0), (57, .if_icmp .ge 9, 3, 0, 66), (60, .aload_n 0, 1, 0, 0), (61, .iconst 2, 1, 2, 0), (62, .invokevirtual 365, 3, 0, 0), (65, .ireturn, 1, 0, 0), (66, .aload_n 0, 1, 0, 0), (67, .getfield 28, 3, 0, 0), (70, .iload_n 1, 1, 0, 0), (71, .iaload, 1, 0, 0), (72, .bipush 8, 2, 8, 0), (74, .if_icmp .ne 9, 3, 0, 83), (77, .aload_n 0, 1, 0, 0), (78, .iconst 3, 1, 3, 0), (79, .invokevirtual 365, 3, 0, 0), (82, .ireturn, 1, 0, 0), (83, .aload_n 0, 1, 0, 0), (84, .iload_n 1, 1, 0, 0), (85, .iload_n 2, 1, 0, 0), (86, .iload_n 3, 1, 0, 0), (87, .iload 4, 2, 0, 0), (89, .iload 5, 2, 0, 0), (91, .invokevirtual 420, 3, 0, 0), (94, .aload_n 0, 1, 0, 0), (95, .aload_n 0, 1, 0, 0), (96, .getfield 28, 3, 0, 0), (99, .iload_n 1, 1, 0, 0), (100, .iaload, 1, 0, 0), (101, .invokevirtual 397, 3, 0, 0), (104, .ireturn, 1, 0, 0)]
theorem tX14_paper_ok : (tX14_paper.all (q_okI cX14_paper)) = true := by decide +kernel

abbrev fdX14_paper : List (Nat ⊕ (Nat × Nat)) := [.inl 0, .inr (0, 7), .inr (0, 17), .inr (0, 18), .inr (0, 19), .inr (0, 20), .inr (0, 21), .inr (0, 22), .inr (0, 23), .inr (0, 26), .inr (0, 27), .inr (0, 28), .inr (0, 31), .inr (0, 32), .inr (0, 33), .inr (0, 34), .inr (0, 36), .inr (0, 37), .inr (0, 38), .inr (0, 39), .inr (0, 40), .inr (0, 41), .inr (0, 43), .inr (0, 44), .inr (0, 45), .inr (0, 46), .inr (0, 47), .inr (0, 48), .inr (0, 50), .inr (0, 51), .inr (0, 52), .inr (0, 4), .inr (31, 0), .inr (31, 1), .inr (31, 2), .inr (31, 3), .inr (31, 8), .inr (31, 9), .inr (31, 10), .inr (31, 11), .inr (31, 12), .inr (31, 13), .inr (31, 14), .inr (31, 15), .inr (31, 16), .inr (31, 17), .inr (31, 18), .inr (31, 19), .inr (31, 20), .inr (31, 21), .inr (31, 22), .inr (31, 23), .inr (31, 24), .inr (31, 25), .inr (31, 26), .inr (31, 27), .inr (31, 28)]
def spX14_paper : q_P := fun a w K => ∃ (th : Int32) (tr : Int32) (wh : Int32) (fa : Int32) (ta : Nat) (sz : Int32) (ix : Int32) (so : Int32) (pl : Int32) (nu : Int32) (wd : Int64) (td : Int32) (mk : Int32) (mo : Int32) (tx : Nat → Int32) (P : PT) (D : DT) (ea : Nat → Int32) (pa : Nat → Int32) (co : Nat → Int32) (S : ST) (Cc : CT) (V : VT) (ba : Nat → Int32) (B : BT) (R : RT) (L : LT) (G : GT) (p k o f t : Int32), w = (modelW 0 (tk 0 5) (tk 0 6) th tr wh fa ta sz ix so pl nu wd td mk mo tx P D ea pa co S Cc V ba B R L G) ∧ a = [.ref 0, .int p, .int k, .int o, .int f, .int t] ∧ pOk P ∧ (if (perB P p && sortB B.1 k o) = true then (if (dayB f && (dayB t && decide (f ≤ t))) = true then (if pcN P p.toNatClampNeg < 8 then K (.inl (some (.int (nI (pcN P p.toNatClampNeg + 1))))) (modelW 0 (tk 0 5) (tk 0 6) (0) (0) (-1) fa ta sz ix so pl nu wd td mk mo tx (peopleGive P p.toNatClampNeg k o f t) D ea pa co S Cc V ba B R L G) else K (.inl (some (.int (-1)))) (modelW 0 (tk 0 5) (tk 0 6) (0) (3) (-1) fa ta sz ix so pl nu wd td mk mo tx P D ea pa co S Cc V ba B R L G)) else K (.inl (some (.int (-1)))) (modelW 0 (tk 0 5) (tk 0 6) (0) (2) (-1) fa ta sz ix so pl nu wd td mk mo tx P D ea pa co S Cc V ba B R L G)) else K (.inl (some (.int (-1)))) (modelW 0 (tk 0 5) (tk 0 6) (0) (1) (-1) fa ta sz ix so pl nu wd td mk mo tx P D ea pa co S Cc V ba B R L G))
abbrev csX14_paper : q_S := (6, 14, 2, 6, 0, 0, fdX14_paper, spX14_paper)
theorem coX14_417 (l : Launch) : q_CO l RX14 417 csX14_isPerson := ⟨yX14_isPerson, cX14_isPerson, (some .boolean), 1, ⟨by decide +kernel, by decide +kernel, by decide +kernel⟩, q_G_i 17 (by decide +kernel) rfl, Or.inl ⟨by decide, rfl, rfl, q_G_i 1730 (by decide +kernel) rfl, q_G_i 1732 (by decide +kernel) rfl, q_G_s (n := 53) 70 (by decide +kernel), Or.inl ⟨q_G_i 1733 (by decide +kernel) rfl, ctX14_isPerson l⟩⟩⟩
theorem coX14_420 (l : Launch) : q_CO l RX14 420 csX14_gives := ⟨yX14_gives, cX14_gives, none, 5, ⟨by decide +kernel, by decide +kernel, by decide +kernel⟩, q_G_i 17 (by decide +kernel) rfl, Or.inl ⟨by decide, rfl, rfl, q_G_i 1734 (by decide +kernel) rfl, q_G_i 1736 (by decide +kernel) rfl, q_G_s (n := 53) 71 (by decide +kernel), Or.inl ⟨q_G_i 1737 (by decide +kernel) rfl, ctX14_gives l⟩⟩⟩
def EX14_paper : q_E := (tX14_paper, [], 6, flX14, [(417, csX14_isPerson), (407, csX14_isOf), (365, csX14_refused), (411, csX14_isDay), (420, csX14_gives), (397, csX14_done)], [], [], [], [], [], 2, 0, 0, (some .int), [], [], 0, 0)
theorem okX14_paper (l : Launch) : q_Eok l RX14 cX14_paper EX14_paper := ⟨tX14_paper_ok, flX14_ok, List.forall_mem_cons.mpr ⟨(coX14_417 l), List.forall_mem_cons.mpr ⟨(coX14_407 l), List.forall_mem_cons.mpr ⟨(coX14_365 l), List.forall_mem_cons.mpr ⟨(coX14_411 l), List.forall_mem_cons.mpr ⟨(coX14_420 l), List.forall_mem_cons.mpr ⟨(coX14_397 l), q_nil⟩⟩⟩⟩⟩⟩, q_nil, q_nil, q_nil, q_nil, q_nil, (fun h => absurd h (by decide))⟩
set_option maxRecDepth 100000 in
set_option maxHeartbeats 4000000 in
theorem ctX14_paper (l : Launch) : q_CT l yX14_paper (.code yX14_paper cX14_paper 6 (some .int)) 2 0 0 spX14_paper := by
  refine q_ct_of EX14_paper (by decide +kernel) (okX14_paper l) rfl rfl rfl rfl rfl q_nil (fun ci h => by cases h) rfl ?_
  intro a w K h
  obtain ⟨th, tr, wh, fa, ta, sz, ix, so, pl, nu, wd, td, mk, mo, tx, P, D, ea, pa, co, S, Cc, V, ba, B, R, L, G, p, k, o, f, t, rfl, rfl, ho, hK⟩ := h
  refine ⟨Nat.le_of_ble_eq_true rfl, fun C hC => hC _ _ _ _ _ _ ?_⟩
  refine ⟨_, _, _, _, _, _, _, _, _, _, _, _, _, _, _, _, _, _, _, _, _, _, _, p, rfl, rfl, And.intro (fun c => ?_) (fun c => ?_)⟩
  · have c : perB P p = false := bI_0.mp c
    rw [c] at hK
    exact ⟨_, _, _, _, _, _, _, _, _, _, _, _, _, _, _, _, _, _, _, _, _, _, _, _, rfl, rfl, hK⟩
  · have c : perB P p = true := bI_n0.mp c
    rw [c, Bool.true_and, sortB] at hK
    refine ⟨_, _, _, _, _, _, _, _, _, _, _, _, _, _, _, _, _, _, _, _, _, _, _, _, 3, k, rfl, rfl, by decide, And.intro (fun c1 => ?_) (fun c1 => ?_)⟩
    · rw [bI_0.mp c1] at hK
      exact ⟨_, _, _, _, _, _, _, _, _, _, _, _, _, _, _, _, _, _, _, _, _, _, _, _, rfl, rfl, hK⟩
    rw [bI_n0.mp c1, Bool.true_and] at hK
    refine ⟨_, _, _, _, _, _, _, _, _, _, _, _, _, _, _, _, _, _, _, _, _, _, _, _, 2, o, rfl, rfl, by decide, And.intro (fun c2 => ?_) (fun c2 => ?_)⟩
    · rw [if_pos (bI_n0.mp c2)] at hK
      refine ⟨f, rfl, rfl, And.intro (fun c3 => ?_) (fun c3 => ?_)⟩
      · rw [bI_0.mp c3] at hK
        exact ⟨_, _, _, _, _, _, _, _, _, _, _, _, _, _, _, _, _, _, _, _, _, _, _, _, rfl, rfl, hK⟩
      · rw [bI_n0.mp c3, Bool.true_and] at hK
        refine ⟨t, rfl, rfl, And.intro (fun c4 => ?_) (fun c4 => ?_)⟩
        · rw [bI_0.mp c4] at hK
          exact ⟨_, _, _, _, _, _, _, _, _, _, _, _, _, _, _, _, _, _, _, _, _, _, _, _, rfl, rfl, hK⟩
        · rw [bI_n0.mp c4, Bool.true_and] at hK
          refine And.intro (fun c5 => ?_) (fun c5 => ?_)
          · rw [if_pos (decide_eq_true c5)] at hK
            obtain ⟨p, rfl, hp, hcp⟩ := perI ho c
            obtain ⟨h1, h2, h3, h4, h5⟩ := pOk_ix ho hp
            rw [hcp] at hK
            refine ⟨h1, And.intro (fun c6 => ?_) (fun c6 => ?_)⟩
            · rw [hcp, h3] at c6
              have h9 : pcN P p < 8 := by
                rcases Nat.lt_or_ge (pcN P p) 8 with z | z
                · exact z
                · exact absurd (show nI (pcN P p) = nI 8 by rw [Nat.le_antisymm h4 z]) c6
              rw [if_pos h9] at hK
              refine ⟨_, _, _, _, _, _, _, _, _, _, _, _, _, _, _, _, _, _, _, _, _, _, _, _, _, _, _, _, p, k, o, f, t, rfl, rfl, ho, hp, h9, h1, _, _, _, _, _, _, _, _, _, _, _, _, _, _, _, _, _, _, _, _, _, _, _, _, rfl, rfl, ?_⟩
              rw [hcp, show (peopleGive P p k o f t).2.1 p = nI (pcN P p + 1) from upd_eq _ _ _]
              exact hK
            · rw [hcp, h3] at c6
              rw [if_neg (c := pcN P p < 8) (fun z => nI_ne (b := 8) (by omega) (by omega) (by omega) c6)] at hK
              exact ⟨_, _, _, _, _, _, _, _, _, _, _, _, _, _, _, _, _, _, _, _, _, _, _, _, rfl, rfl, hK⟩
          · rw [decide_eq_false c5] at hK
            exact ⟨_, _, _, _, _, _, _, _, _, _, _, _, _, _, _, _, _, _, _, _, _, _, _, _, rfl, rfl, hK⟩
    · rw [bI_0.mp c2] at hK
      exact ⟨_, _, _, _, _, _, _, _, _, _, _, _, _, _, _, _, _, _, _, _, _, _, _, _, rfl, rfl, hK⟩
def tX14_held : List q_I := [(0, .aload_n 0, 1, 0, 0), (1, .iconst 0, 1, 0, 0), (2, .putfield 123, 3, 0, 0), (5, .aload_n 0, 1, 0, 0), (6, .iload_n 1, 1, 0, 0), (7, .invokevirtual 417, 3, 0, 0), (10, .ifCond .eq 17, 3, 0, 27), (13, .iload_n 2, 1, 0, 0), (14, .ifCond .lt 13, 3, 0, 27), (17, .iload_n 2, 1, 0, 0), (18, .aload_n 0, 1, 0, 0), (19, .getfield 28, 3, 0, 0), (22, .iload_n 1, 1, 0, 0), (23, .iaload, 1, 0, 0), (24, .if_icmp .lt 5, 3, 0, 29), (27, .iconst (-1), 1, (-1), 0), (28, .ireturn, 1, 0, 0), (29, .bipush 8, 2, 8, 0), (31, .iload_n 1, 1, 0, 0), (32, .imul, 1, 0, 0), (33, .iload_n 2, 1, 0, 0), (34, .iadd, 1, 0, 0), (35, .istore 4, 2, 0, 0), (37, .iload_n 3, 1, 0, 0), (38, .ifCond .ne 13, 3, 0, 51), (41, .aload_n 0, 1, 0, 0), (42, .getfield 31, 3, 0, 0), (45, .iload 4, 2, 0, 0), (47, .iaload, 1, 0, 0), (48, .goto 49, 3, 0, 97), (51, .iload_n 3, 1, 0, 0), (52, .iconst 1, 1, 1, 0), (53, .if_icmp .ne 13, 3, 0, 66), (56, .aload_n 0, 1, 0, 0), (57, .getfield 34, 3, 0, 0), (60, .iload 4, 2, 0, 0), (62, .iaload, 1, 0, 0), (63, .goto 34, 3, 0, 97), (66, .iload_n 3, 1, 0, 0), (67, .iconst 2, 1, 2, 0), (68, .if_icmp .ne 13, 3, 0, 81), (71, .aload_n 0, 1, 0, 0), (72, .getfield 37, 3, 0, 0), (75, .iload 4, 2, 0, 0), (77, .iaload, 1, 0, 0), (78, .goto 19, 3, 0, 97), (81, .iload_n 3, 1, 0, 0), (82, .iconst 3, 1, 3, 0), (83, .if_icmp .ne 13, 3, 0, 96), (86, .aload_n 0, 1, 0, 0), (87, .getfield 40, 3, 0, 0), (90, .iload 4, 2, 0, 0), (92, .iaload, 1, 0, 0), (93, .goto 4, 3, 0, 97), (96, .iconst (-1), 1, (-1), 0), (97, .ireturn, 1, 0, 0)]
theorem tX14_held_ok : (tX14_held.all (q_okI cX14_held)) = true := by decide +kernel

abbrev fdX14_held : List (Nat ⊕ (Nat × Nat)) := [.inl 0, .inr (0, 7), .inr (0, 17), .inr (0, 18), .inr (0, 19), .inr (0, 20), .inr (0, 21), .inr (0, 22), .inr (0, 23), .inr (0, 26), .inr (0, 27), .inr (0, 28), .inr (0, 31), .inr (0, 32), .inr (0, 33), .inr (0, 34), .inr (0, 36), .inr (0, 37), .inr (0, 38), .inr (0, 39), .inr (0, 40), .inr (0, 41), .inr (0, 43), .inr (0, 44), .inr (0, 45), .inr (0, 46), .inr (0, 47), .inr (0, 48), .inr (0, 50), .inr (0, 51), .inr (0, 52), .inr (0, 4), .inr (31, 0), .inr (31, 1), .inr (31, 2), .inr (31, 3), .inr (31, 8), .inr (31, 9), .inr (31, 10), .inr (31, 11), .inr (31, 12), .inr (31, 13), .inr (31, 14), .inr (31, 15), .inr (31, 16), .inr (31, 17), .inr (31, 18), .inr (31, 19), .inr (31, 20), .inr (31, 21), .inr (31, 22), .inr (31, 23), .inr (31, 24), .inr (31, 25), .inr (31, 26), .inr (31, 27), .inr (31, 28)]
def spX14_held : q_P := fun a w K => ∃ (th : Int32) (tr : Int32) (wh : Int32) (fa : Int32) (ta : Nat) (sz : Int32) (ix : Int32) (so : Int32) (pl : Int32) (nu : Int32) (wd : Int64) (td : Int32) (mk : Int32) (mo : Int32) (tx : Nat → Int32) (P : PT) (D : DT) (ea : Nat → Int32) (pa : Nat → Int32) (co : Nat → Int32) (S : ST) (Cc : CT) (V : VT) (ba : Nat → Int32) (B : BT) (R : RT) (L : LT) (G : GT) (p i x : Int32), w = (modelW 0 (tk 0 5) (tk 0 6) th tr wh fa ta sz ix so pl nu wd td mk mo tx P D ea pa co S Cc V ba B R L G) ∧ a = [.ref 0, .int p, .int i, .int x] ∧ pOk P ∧ (if (perB P p && decide (0 ≤ i ∧ i < nI (pcN P p.toNatClampNeg))) = true then K (.inl (some (.int (heldI P (p.toNatClampNeg * 8 + i.toNatClampNeg) x)))) (modelW 0 (tk 0 5) (tk 0 6) (0) tr wh fa ta sz ix so pl nu wd td mk mo tx P D ea pa co S Cc V ba B R L G) else K (.inl (some (.int (-1)))) (modelW 0 (tk 0 5) (tk 0 6) (0) tr wh fa ta sz ix so pl nu wd td mk mo tx P D ea pa co S Cc V ba B R L G))
abbrev csX14_held : q_S := (4, 14, 1, 5, 0, 0, fdX14_held, spX14_held)
def EX14_held : q_E := (tX14_held, [], 5, flX14, [(417, csX14_isPerson)], [], [], [], [], [], 1, 0, 0, (some .int), [], [], 0, 0)
theorem okX14_held (l : Launch) : q_Eok l RX14 cX14_held EX14_held := ⟨tX14_held_ok, flX14_ok, List.forall_mem_cons.mpr ⟨(coX14_417 l), q_nil⟩, q_nil, q_nil, q_nil, q_nil, q_nil, (fun h => absurd h (by decide))⟩
set_option maxRecDepth 100000 in
set_option maxHeartbeats 4000000 in
theorem ctX14_held (l : Launch) : q_CT l yX14_held (.code yX14_held cX14_held 5 (some .int)) 1 0 0 spX14_held := by
  refine q_ct_of EX14_held (by decide +kernel) (okX14_held l) rfl rfl rfl rfl rfl q_nil (fun ci h => by cases h) rfl ?_
  intro a w K h
  obtain ⟨th, tr, wh, fa, ta, sz, ix, so, pl, nu, wd, td, mk, mo, tx, P, D, ea, pa, co, S, Cc, V, ba, B, R, L, G, p, i, x, rfl, rfl, ho, hK⟩ := h
  refine ⟨Nat.le_of_ble_eq_true rfl, fun C hC => hC _ _ _ _ _ _ ?_⟩
  refine ⟨_, _, _, _, _, _, _, _, _, _, _, _, _, _, _, _, _, _, _, _, _, _, _, p, rfl, rfl, And.intro (fun c => ?_) (fun c => ?_)⟩
  · have c : perB P p = false := bI_0.mp c
    rw [c] at hK
    exact hK
  · have c : perB P p = true := bI_n0.mp c
    rw [c, Bool.true_and] at hK
    obtain ⟨p, rfl, hp, hcp⟩ := perI ho c
    obtain ⟨h1, h2, h3, h4, h5⟩ := pOk_ix ho hp
    rw [hcp] at hK
    refine And.intro (fun c2 => ?_) (fun c2 => ⟨h1, And.intro (fun c3 => ?_) (fun c3 => ?_)⟩)
    · rw [decide_eq_false (fun z => absurd c2 (Int32.not_lt.mpr z.1))] at hK
      exact hK
    · rw [hcp, h3] at c3
      have c9 := And.intro (Int32.not_lt.mp c2) c3
      rw [decide_eq_true c9] at hK
      obtain ⟨i, rfl, hi⟩ := inI (by omega) c9
      have hci : (nI i).toNatClampNeg = i := nI_clamp (by omega)
      rw [hci] at hK
      have hv : vp_in (8 * nI p + nI i) 240 := by rw [nI_8m, nI_add]; exact vp_in_nI (by omega) (by omega)
      have hc : (8 * nI p + nI i).toNatClampNeg = p * 8 + i := by rw [nI_8m, nI_add]; exact nI_clamp (by omega)
      have hK : K (.inl (some (.int (heldI P (p * 8 + i) x)))) (modelW 0 (tk 0 5) (tk 0 6) (0) tr wh fa ta sz ix so pl nu wd td mk mo tx P D ea pa co S Cc V ba B R L G) := hK
      unfold heldI at hK
      refine And.intro (fun d0 => And.intro (fun d1 => And.intro (fun d2 => And.intro (fun d3 => ?_) (fun d3 => ⟨hv, ?_⟩)) (fun d2 => ⟨hv, ?_⟩)) (fun d1 => ⟨hv, ?_⟩)) (fun d0 => ⟨hv, ?_⟩)
      · rw [if_neg d0, if_neg d1, if_neg d2, if_neg d3] at hK
        exact hK
      · rw [if_neg d0, if_neg d1, if_neg d2, if_pos d3] at hK
        rw [hc]; exact hK
      · rw [if_neg d0, if_neg d1, if_pos d2] at hK
        rw [hc]; exact hK
      · rw [if_neg d0, if_pos d1] at hK
        rw [hc]; exact hK
      · rw [if_pos d0] at hK
        rw [hc]; exact hK
    · rw [hcp, h3] at c3
      rw [decide_eq_false (fun z => c3 z.2)] at hK
      exact hK
def tX14_move : List q_I := [(0, .aload_n 0, 1, 0, 0), (1, .iconst 0, 1, 0, 0), (2, .putfield 123, 3, 0, 0), (5, .aload_n 0, 1, 0, 0), (6, .iload_n 1, 1, 0, 0), (7, .invokevirtual 417, 3, 0, 0), (10, .ifCond .eq 12, 3, 0, 22), (13, .aload_n 0, 1, 0, 0), (14, .iconst 0, 1, 0, 0), (15, .iload_n 2, 1, 0, 0), (16, .invokevirtual 407, 3, 0, 0), (19, .ifCond .ne 9, 3, 0, 28), (22, .aload_n 0, 1, 0, 0), (23, .iconst 1, 1, 1, 0), (24, .invokevirtual 424, 3, 0, 0), (27, .ireturn, 1, 0, 0), (28, .aload_n 0, 1, 0, 0), (29, .getfield 24, 3, 0, 0), (32, .iload_n 1, 1, 0, 0), (33, .iaload, 1, 0, 0), (34, .iload_n 2, 1, 0, 0), (35, .if_icmp .ne 9, 3, 0, 44), (38, .aload_n 0, 1, 0, 0), (39, .iconst 5, 1, 5, 0), (40, .invokevirtual 424, 3, 0, 0), (43, .ireturn, 1, 0, 0), (44, .aload_n 0, 1, 0, 0), (45, .getfield 24, 3, 0, 0), (48, .iload_n 1, 1, 0, 0), (49, .iload_n 2, 1, 0, 0), (50, .iastore, 1, 0, 0), (51, .aload_n 0, 1, 0, 0), (52, .invokevirtual 427, 3, 0, 0), (55, .ireturn, 1, 0, 0)]
theorem tX14_move_ok : (tX14_move.all (q_okI cX14_move)) = true := by decide +kernel

abbrev fdX14_move : List (Nat ⊕ (Nat × Nat)) := [.inl 0, .inr (0, 7), .inr (0, 17), .inr (0, 18), .inr (0, 19), .inr (0, 20), .inr (0, 21), .inr (0, 22), .inr (0, 23), .inr (0, 26), .inr (0, 27), .inr (0, 28), .inr (0, 31), .inr (0, 32), .inr (0, 33), .inr (0, 34), .inr (0, 36), .inr (0, 37), .inr (0, 38), .inr (0, 39), .inr (0, 40), .inr (0, 41), .inr (0, 43), .inr (0, 44), .inr (0, 45), .inr (0, 46), .inr (0, 47), .inr (0, 48), .inr (0, 50), .inr (0, 51), .inr (0, 52), .inr (0, 4), .inr (31, 0), .inr (31, 1), .inr (31, 2), .inr (31, 3), .inr (31, 8), .inr (31, 9), .inr (31, 10), .inr (31, 11), .inr (31, 12), .inr (31, 13), .inr (31, 14), .inr (31, 15), .inr (31, 16), .inr (31, 17), .inr (31, 18), .inr (31, 19), .inr (31, 20), .inr (31, 21), .inr (31, 22), .inr (31, 23), .inr (31, 24), .inr (31, 25), .inr (31, 26), .inr (31, 27), .inr (31, 28)]
def spX14_move : q_P := fun a w K => ∃ (th : Int32) (tr : Int32) (wh : Int32) (fa : Int32) (ta : Nat) (sz : Int32) (ix : Int32) (so : Int32) (pl : Int32) (nu : Int32) (wd : Int64) (td : Int32) (mk : Int32) (mo : Int32) (tx : Nat → Int32) (P : PT) (D : DT) (ea : Nat → Int32) (pa : Nat → Int32) (co : Nat → Int32) (S : ST) (Cc : CT) (V : VT) (ba : Nat → Int32) (B : BT) (R : RT) (L : LT) (G : GT) (p x : Int32), w = (modelW 0 (tk 0 5) (tk 0 6) th tr wh fa ta sz ix so pl nu wd td mk mo tx P D ea pa co S Cc V ba B R L G) ∧ a = [.ref 0, .int p, .int x] ∧ pOk P ∧ (if (perB P p && toldB B.1 0 x) = true then (if P.1 p.toNatClampNeg = x then K (.inl (some (.int 0))) (modelW 0 (tk 0 5) (tk 0 6) (0) (5) (-1) fa ta sz ix so pl nu wd td mk mo tx P D ea pa co S Cc V ba B R L G) else K (.inl (some (.int 1))) (modelW 0 (tk 0 5) (tk 0 6) (0) (0) (-1) fa ta sz ix so pl nu wd td mk mo tx ((upd P.1 p.toNatClampNeg x, P.2)) D ea pa co S Cc V ba B R L G)) else K (.inl (some (.int 0))) (modelW 0 (tk 0 5) (tk 0 6) (0) (1) (-1) fa ta sz ix so pl nu wd td mk mo tx P D ea pa co S Cc V ba B R L G))
abbrev csX14_move : q_S := (3, 14, 1, 3, 0, 0, fdX14_move, spX14_move)
theorem coX14_424 (l : Launch) : q_CO l RX14 424 csX14_denied := ⟨yX14_denied, cX14_denied, (some .boolean), 1, ⟨by decide +kernel, by decide +kernel, by decide +kernel⟩, q_G_i 17 (by decide +kernel) rfl, Or.inl ⟨by decide, rfl, rfl, q_G_i 1746 (by decide +kernel) rfl, q_G_i 1748 (by decide +kernel) rfl, q_G_s (n := 53) 72 (by decide +kernel), Or.inl ⟨q_G_i 1749 (by decide +kernel) rfl, ctX14_denied l⟩⟩⟩
theorem coX14_427 (l : Launch) : q_CO l RX14 427 csX14_granted := ⟨yX14_granted, cX14_granted, (some .boolean), 0, ⟨by decide +kernel, by decide +kernel, by decide +kernel⟩, q_G_i 17 (by decide +kernel) rfl, Or.inl ⟨by decide, rfl, rfl, q_G_i 1750 (by decide +kernel) rfl, q_G_i 1752 (by decide +kernel) rfl, q_G_s (n := 53) 73 (by decide +kernel), Or.inl ⟨q_G_i 1753 (by decide +kernel) rfl, ctX14_granted l⟩⟩⟩
def EX14_move : q_E := (tX14_move, [], 3, flX14, [(417, csX14_isPerson), (407, csX14_isOf), (424, csX14_denied), (427, csX14_granted)], [], [], [], [], [], 1, 0, 0, (some .boolean), [], [], 0, 0)
theorem okX14_move (l : Launch) : q_Eok l RX14 cX14_move EX14_move := ⟨tX14_move_ok, flX14_ok, List.forall_mem_cons.mpr ⟨(coX14_417 l), List.forall_mem_cons.mpr ⟨(coX14_407 l), List.forall_mem_cons.mpr ⟨(coX14_424 l), List.forall_mem_cons.mpr ⟨(coX14_427 l), q_nil⟩⟩⟩⟩, q_nil, q_nil, q_nil, q_nil, q_nil, (fun h => absurd h (by decide))⟩
set_option maxRecDepth 100000 in
set_option maxHeartbeats 4000000 in
theorem ctX14_move (l : Launch) : q_CT l yX14_move (.code yX14_move cX14_move 3 (some .boolean)) 1 0 0 spX14_move := by
  refine q_ct_of EX14_move (by decide +kernel) (okX14_move l) rfl rfl rfl rfl rfl q_nil (fun ci h => by cases h) rfl ?_
  intro a w K h
  obtain ⟨th, tr, wh, fa, ta, sz, ix, so, pl, nu, wd, td, mk, mo, tx, P, D, ea, pa, co, S, Cc, V, ba, B, R, L, G, p, x, rfl, rfl, ho, hK⟩ := h
  refine ⟨Nat.le_of_ble_eq_true rfl, fun C hC => hC _ _ _ _ _ _ ?_⟩
  refine ⟨_, _, _, _, _, _, _, _, _, _, _, _, _, _, _, _, _, _, _, _, _, _, _, p, rfl, rfl, And.intro (fun c => ?_) (fun c => ?_)⟩
  · have c : perB P p = false := bI_0.mp c
    rw [c] at hK
    exact ⟨_, _, _, _, _, _, _, _, _, _, _, _, _, _, _, _, _, _, _, _, _, _, _, _, rfl, rfl, rfl, hK⟩
  · have c : perB P p = true := bI_n0.mp c
    rw [c, Bool.true_and] at hK
    refine ⟨_, _, _, _, _, _, _, _, _, _, _, _, _, _, _, _, _, _, _, _, _, _, _, _, 0, x, rfl, rfl, by decide, And.intro (fun c2 => ?_) (fun c2 => ?_)⟩
    · rw [if_pos (bI_n0.mp c2)] at hK
      obtain ⟨p, rfl, hp, hcp⟩ := perI ho c
      have hv : vp_in (nI p) 30 := vp_in_nI (by have := ho.1; omega) (by omega)
      refine ⟨hv, And.intro (fun c3 => ?_) (fun c3 => ?_)⟩
      · rw [if_neg c3] at hK
        exact ⟨hv, _, _, _, _, _, _, _, _, _, _, _, _, _, _, _, _, _, _, _, _, _, _, _, rfl, rfl, rfl, hK⟩
      · rw [if_pos c3] at hK
        exact ⟨_, _, _, _, _, _, _, _, _, _, _, _, _, _, _, _, _, _, _, _, _, _, _, _, rfl, rfl, rfl, hK⟩
    · rw [if_neg (by rw [bI_0.mp c2]; decide)] at hK
      exact ⟨_, _, _, _, _, _, _, _, _, _, _, _, _, _, _, _, _, _, _, _, _, _, _, _, rfl, rfl, rfl, hK⟩
def tX14_is : List q_I := [(0, .aload_n 0, 1, 0, 0), (1, .iconst 0, 1, 0, 0), (2, .putfield 123, 3, 0, 0), (5, .aload_n 0, 1, 0, 0), (6, .iload_n 1, 1, 0, 0), (7, .invokevirtual 417, 3, 0, 0), (10, .ifCond .eq 12, 3, 0, 22), (13, .aload_n 0, 1, 0, 0), (14, .iconst 3, 1, 3, 0), (15, .iload_n 2, 1, 0, 0), (16, .invokevirtual 407, 3, 0, 0), (19, .ifCond .ne 9, 3, 0, 28), (22, .aload_n 0, 1, 0, 0), (23, .iconst 1, 1, 1, 0), (24, .invokevirtual 365, 3, 0, 0), (27, .ireturn, 1, 0, 0), (28, .iload_n 3, 1, 0, 0), (29, .invokestatic 411, 3, 0, 0), (32, .ifCond .eq 17, 3, 0, 49), (35, .aload_n 0, 1, 0, 0), (36, .aload_n 0, 1, 0, 0), (37, .iload_n 1, 1, 0, 0), (38, .iload_n 2, 1, 0, 0), (39, .iload_n 3, 1, 0, 0), (40, .invokevirtual 437, 3, 0, 0), (43, .invokevirtual 397, 3, 0, 0), (46, .goto 8, 3, 0, 54), (49, .aload_n 0, 1, 0, 0), (50, .iconst 2, 1, 2, 0), (51, .invokevirtual 365, 3, 0, 0), (54, .ireturn, 1, 0, 0)]
theorem tX14_is_ok : (tX14_is.all (q_okI cX14_is)) = true := by decide +kernel

abbrev fdX14_is : List (Nat ⊕ (Nat × Nat)) := [.inl 0, .inr (0, 7), .inr (0, 17), .inr (0, 18), .inr (0, 19), .inr (0, 20), .inr (0, 21), .inr (0, 22), .inr (0, 23), .inr (0, 26), .inr (0, 27), .inr (0, 28), .inr (0, 31), .inr (0, 32), .inr (0, 33), .inr (0, 34), .inr (0, 36), .inr (0, 37), .inr (0, 38), .inr (0, 39), .inr (0, 40), .inr (0, 41), .inr (0, 43), .inr (0, 44), .inr (0, 45), .inr (0, 46), .inr (0, 47), .inr (0, 48), .inr (0, 50), .inr (0, 51), .inr (0, 52), .inr (0, 4), .inr (31, 0), .inr (31, 1), .inr (31, 2), .inr (31, 3), .inr (31, 8), .inr (31, 9), .inr (31, 10), .inr (31, 11), .inr (31, 12), .inr (31, 13), .inr (31, 14), .inr (31, 15), .inr (31, 16), .inr (31, 17), .inr (31, 18), .inr (31, 19), .inr (31, 20), .inr (31, 21), .inr (31, 22), .inr (31, 23), .inr (31, 24), .inr (31, 25), .inr (31, 26), .inr (31, 27), .inr (31, 28)]
def spX14_is : q_P := fun a w K => ∃ (th : Int32) (tr : Int32) (wh : Int32) (fa : Int32) (ta : Nat) (sz : Int32) (ix : Int32) (so : Int32) (pl : Int32) (nu : Int32) (wd : Int64) (td : Int32) (mk : Int32) (mo : Int32) (tx : Nat → Int32) (P : PT) (D : DT) (ea : Nat → Int32) (pa : Nat → Int32) (co : Nat → Int32) (S : ST) (Cc : CT) (V : VT) (ba : Nat → Int32) (B : BT) (R : RT) (L : LT) (G : GT) (n : Nat) (p k d : Int32), w = (modelW 0 (tk 0 5) (tk 0 6) th tr wh fa ta sz ix so pl nu wd td mk mo tx P D ea pa co S Cc V ba B R L G) ∧ a = [.ref 0, .int p, .int k, .int d] ∧ pOk P ∧ L_n L ≤ 24 ∧ B.1 1 = nI n ∧ n ≤ 5 ∧ (if (perB P p && toldB B.1 3 k) = true then (if dayB d = true then K (.inl (some (.int (landsG P L p.toNatClampNeg k d n)))) (modelW 0 (tk 0 5) (tk 0 6) (0) (0) (-1) fa ta sz ix so pl nu wd td mk mo tx P D ea pa co S Cc V ba B R L G) else K (.inl (some (.int (-1)))) (modelW 0 (tk 0 5) (tk 0 6) (0) (2) (-1) fa ta sz ix so pl nu wd td mk mo tx P D ea pa co S Cc V ba B R L G)) else K (.inl (some (.int (-1)))) (modelW 0 (tk 0 5) (tk 0 6) (0) (1) (-1) fa ta sz ix so pl nu wd td mk mo tx P D ea pa co S Cc V ba B R L G))
abbrev csX14_is : q_S := (4, 14, 4, 4, 0, 0, fdX14_is, spX14_is)
theorem coX14_437 (l : Launch) : q_CO l RX14 437 csX14_goodIn := ⟨yX14_goodIn, cX14_goodIn, (some .int), 3, ⟨by decide +kernel, by decide +kernel, by decide +kernel⟩, q_G_i 17 (by decide +kernel) rfl, Or.inl ⟨by decide, rfl, rfl, q_G_i 1758 (by decide +kernel) rfl, q_G_i 1760 (by decide +kernel) rfl, q_G_s (n := 53) 74 (by decide +kernel), Or.inl ⟨q_G_i 1761 (by decide +kernel) rfl, ctX14_goodIn l⟩⟩⟩
def EX14_is : q_E := (tX14_is, [], 4, flX14, [(417, csX14_isPerson), (407, csX14_isOf), (365, csX14_refused), (411, csX14_isDay), (437, csX14_goodIn), (397, csX14_done)], [], [], [], [], [], 4, 0, 0, (some .int), [], [], 0, 0)
theorem okX14_is (l : Launch) : q_Eok l RX14 cX14_is EX14_is := ⟨tX14_is_ok, flX14_ok, List.forall_mem_cons.mpr ⟨(coX14_417 l), List.forall_mem_cons.mpr ⟨(coX14_407 l), List.forall_mem_cons.mpr ⟨(coX14_365 l), List.forall_mem_cons.mpr ⟨(coX14_411 l), List.forall_mem_cons.mpr ⟨(coX14_437 l), List.forall_mem_cons.mpr ⟨(coX14_397 l), q_nil⟩⟩⟩⟩⟩⟩, q_nil, q_nil, q_nil, q_nil, q_nil, (fun h => absurd h (by decide))⟩
set_option maxRecDepth 100000 in
set_option maxHeartbeats 4000000 in
theorem ctX14_is (l : Launch) : q_CT l yX14_is (.code yX14_is cX14_is 4 (some .int)) 4 0 0 spX14_is := by
  refine q_ct_of EX14_is (by decide +kernel) (okX14_is l) rfl rfl rfl rfl rfl q_nil (fun ci h => by cases h) rfl ?_
  intro a w K h
  obtain ⟨th, tr, wh, fa, ta, sz, ix, so, pl, nu, wd, td, mk, mo, tx, P, D, ea, pa, co, S, Cc, V, ba, B, R, L, G, n, p, k, d, rfl, rfl, ho, hL, hB, hn, hK⟩ := h
  refine ⟨Nat.le_of_ble_eq_true rfl, fun C hC => hC _ _ _ _ _ _ ?_⟩
  refine ⟨_, _, _, _, _, _, _, _, _, _, _, _, _, _, _, _, _, _, _, _, _, _, _, p, rfl, rfl, And.intro (fun c => ?_) (fun c => ?_)⟩
  · have c : perB P p = false := bI_0.mp c
    rw [c] at hK
    exact ⟨_, _, _, _, _, _, _, _, _, _, _, _, _, _, _, _, _, _, _, _, _, _, _, _, rfl, rfl, hK⟩
  · have c : perB P p = true := bI_n0.mp c
    rw [c, Bool.true_and] at hK
    refine ⟨_, _, _, _, _, _, _, _, _, _, _, _, _, _, _, _, _, _, _, _, _, _, _, _, 3, k, rfl, rfl, by decide, And.intro (fun c2 => ?_) (fun c2 => ?_)⟩
    · rw [if_pos (bI_n0.mp c2)] at hK
      refine ⟨d, rfl, rfl, And.intro (fun c3 => ?_) (fun c3 => ?_)⟩
      · rw [if_neg (by rw [bI_0.mp c3]; decide)] at hK
        exact ⟨_, _, _, _, _, _, _, _, _, _, _, _, _, _, _, _, _, _, _, _, _, _, _, _, rfl, rfl, hK⟩
      · rw [if_pos (bI_n0.mp c3)] at hK
        obtain ⟨p, rfl, hp, hcp⟩ := perI ho c
        rw [hcp] at hK
        exact ⟨_, _, _, _, _, _, _, _, _, _, _, _, _, _, _, _, _, _, _, _, _, _, _, _, _, _, _, _, n, p, k, d, rfl, rfl, ho, hL, hp, hB, hn, _, _, _, _, _, _, _, _, _, _, _, _, _, _, _, _, _, _, _, _, _, _, _, _, rfl, rfl, hK⟩
    · rw [if_neg (by rw [bI_0.mp c2]; decide)] at hK
      exact ⟨_, _, _, _, _, _, _, _, _, _, _, _, _, _, _, _, _, _, _, _, _, _, _, _, rfl, rfl, hK⟩
def tX14_open : List q_I := [(0, .aload_n 0, 1, 0, 0), (1, .iconst 0, 1, 0, 0), (2, .putfield 123, 3, 0, 0), (5, .aload_n 0, 1, 0, 0), (6, .iload_n 1, 1, 0, 0), (7, .invokevirtual 417, 3, 0, 0), (10, .ifCond .eq 18, 3, 0, 28), (13, .iload_n 2, 1, 0, 0), (14, .ifCond .lt 14, 3, 0, 28), (17, .iload_n 2, 1, 0, 0), (18, .aload_n 0, 1, 0, 0), (19, .getfield 379, 3, 0, 0), (22, .getfield 255, 3, 0, 0), (25, .if_icmp .lt 9, 3, 0, 34), (28, .aload_n 0, 1, 0, 0), (29, .iconst 1, 1, 1, 0), (30, .invokevirtual 365, 3, 0, 0), (33, .ireturn, 1, 0, 0), (34, .iload_n 3, 1, 0, 0), (35, .invokestatic 411, 3, 0, 0), (38, .ifCond .ne 9, 3, 0, 47), (41, .aload_n 0, 1, 0, 0), (42, .iconst 2, 1, 2, 0), (43, .invokevirtual 365, 3, 0, 0), (46, .ireturn, 1, 0, 0), (47, .aload_n 0, 1, 0, 0), (48, .aload_n 0, 1, 0, 0), (49, .iload_n 1, 1, 0, 0), (50, .iload_n 2, 1, 0, 0), (51, .iload_n 3, 1, 0, 0), (52, .invokevirtual 441, 3, 0, 0), (55, .ifCond .eq 7, 3, 0, 62), (58, .iconst 1, 1, 1, 0), (59, .goto 4, 3, 0, 63), (62, .iconst 0, 1, 0, 0), (63, .invokevirtual 397, 3, 0, 0), (66, .ireturn, 1, 0, 0)]
theorem tX14_open_ok : (tX14_open.all (q_okI cX14_open)) = true := by decide +kernel

abbrev fdX14_open : List (Nat ⊕ (Nat × Nat)) := [.inl 0, .inr (0, 7), .inr (0, 17), .inr (0, 18), .inr (0, 19), .inr (0, 20), .inr (0, 21), .inr (0, 22), .inr (0, 23), .inr (0, 26), .inr (0, 27), .inr (0, 28), .inr (0, 31), .inr (0, 32), .inr (0, 33), .inr (0, 34), .inr (0, 36), .inr (0, 37), .inr (0, 38), .inr (0, 39), .inr (0, 40), .inr (0, 41), .inr (0, 43), .inr (0, 44), .inr (0, 45), .inr (0, 46), .inr (0, 47), .inr (0, 48), .inr (0, 50), .inr (0, 51), .inr (0, 52), .inr (0, 4), .inr (31, 0), .inr (31, 1), .inr (31, 2), .inr (31, 3), .inr (31, 8), .inr (31, 9), .inr (31, 10), .inr (31, 11), .inr (31, 12), .inr (31, 13), .inr (31, 14), .inr (31, 15), .inr (31, 16), .inr (31, 17), .inr (31, 18), .inr (31, 19), .inr (31, 20), .inr (31, 21), .inr (31, 22), .inr (31, 23), .inr (31, 24), .inr (31, 25), .inr (31, 26), .inr (31, 27), .inr (31, 28)]
def spX14_open : q_P := fun a w K => ∃ (th : Int32) (tr : Int32) (wh : Int32) (fa : Int32) (ta : Nat) (sz : Int32) (ix : Int32) (so : Int32) (pl : Int32) (nu : Int32) (wd : Int64) (td : Int32) (mk : Int32) (mo : Int32) (tx : Nat → Int32) (P : PT) (D : DT) (ea : Nat → Int32) (pa : Nat → Int32) (co : Nat → Int32) (S : ST) (Cc : CT) (V : VT) (ba : Nat → Int32) (B : BT) (R : RT) (L : LT) (G : GT) (p r d : Int32), w = (modelW 0 (tk 0 5) (tk 0 6) th tr wh fa ta sz ix so pl nu wd td mk mo tx P D ea pa co S Cc V ba B R L G) ∧ a = [.ref 0, .int p, .int r, .int d] ∧ pOk P ∧ rOk R ∧ L_n L ≤ 24 ∧ (if (perB P p && decide (0 ≤ r ∧ r < nI R.2.2.2.2.2.2.2)) = true then (if dayB d = true then K (.inl (some (.int (bI (opnW R L (metB P L R p.toNatClampNeg d) mk mo d r.toNatClampNeg))))) (modelW 0 (tk 0 5) (tk 0 6) (0) (0) (-1) fa ta sz ix so pl nu wd td mk mo tx P D ea pa co S Cc V ba B R L G) else K (.inl (some (.int (-1)))) (modelW 0 (tk 0 5) (tk 0 6) (0) (2) (-1) fa ta sz ix so pl nu wd td mk mo tx P D ea pa co S Cc V ba B R L G)) else K (.inl (some (.int (-1)))) (modelW 0 (tk 0 5) (tk 0 6) (0) (1) (-1) fa ta sz ix so pl nu wd td mk mo tx P D ea pa co S Cc V ba B R L G))
abbrev csX14_open : q_S := (4, 14, 4, 4, 0, 0, fdX14_open, spX14_open)
theorem coX14_441 (l : Launch) : q_CO l RX14 441 csX14_isOpen := ⟨yX14_isOpen, cX14_isOpen, (some .boolean), 3, ⟨by decide +kernel, by decide +kernel, by decide +kernel⟩, q_G_i 17 (by decide +kernel) rfl, Or.inl ⟨by decide, rfl, rfl, q_G_i 1778 (by decide +kernel) rfl, q_G_i 1780 (by decide +kernel) rfl, q_G_s (n := 53) 77 (by decide +kernel), Or.inl ⟨q_G_i 1781 (by decide +kernel) rfl, ctX14_isOpen l⟩⟩⟩
def EX14_open : q_E := (tX14_open, [], 4, flX14, [(417, csX14_isPerson), (365, csX14_refused), (411, csX14_isDay), (441, csX14_isOpen), (397, csX14_done)], [], [], [], [], [], 4, 0, 0, (some .int), [], [], 0, 0)
theorem okX14_open (l : Launch) : q_Eok l RX14 cX14_open EX14_open := ⟨tX14_open_ok, flX14_ok, List.forall_mem_cons.mpr ⟨(coX14_417 l), List.forall_mem_cons.mpr ⟨(coX14_365 l), List.forall_mem_cons.mpr ⟨(coX14_411 l), List.forall_mem_cons.mpr ⟨(coX14_441 l), List.forall_mem_cons.mpr ⟨(coX14_397 l), q_nil⟩⟩⟩⟩⟩, q_nil, q_nil, q_nil, q_nil, q_nil, (fun h => absurd h (by decide))⟩
set_option maxRecDepth 100000 in
set_option maxHeartbeats 4000000 in
theorem ctX14_open (l : Launch) : q_CT l yX14_open (.code yX14_open cX14_open 4 (some .int)) 4 0 0 spX14_open := by
  refine q_ct_of EX14_open (by decide +kernel) (okX14_open l) rfl rfl rfl rfl rfl q_nil (fun ci h => by cases h) rfl ?_
  intro a w K h
  obtain ⟨th, tr, wh, fa, ta, sz, ix, so, pl, nu, wd, td, mk, mo, tx, P, D, ea, pa, co, S, Cc, V, ba, B, R, L, G, p, r, d, rfl, rfl, ho, hro, hL, hK⟩ := h
  refine ⟨Nat.le_of_ble_eq_true rfl, fun C hC => hC _ _ _ _ _ _ ?_⟩
  refine ⟨_, _, _, _, _, _, _, _, _, _, _, _, _, _, _, _, _, _, _, _, _, _, _, p, rfl, rfl, And.intro (fun c => ?_) (fun c => ?_)⟩
  · have c : perB P p = false := bI_0.mp c
    rw [c] at hK
    exact ⟨_, _, _, _, _, _, _, _, _, _, _, _, _, _, _, _, _, _, _, _, _, _, _, _, rfl, rfl, hK⟩
  · have c : perB P p = true := bI_n0.mp c
    rw [c, Bool.true_and] at hK
    refine And.intro (fun c1 => ?_) (fun c1 => And.intro (fun c2 => ?_) (fun c2 => ?_))
    · rw [decide_eq_false (fun z => absurd c1 (Int32.not_lt.mpr z.1))] at hK
      exact ⟨_, _, _, _, _, _, _, _, _, _, _, _, _, _, _, _, _, _, _, _, _, _, _, _, rfl, rfl, hK⟩
    · have c9 := And.intro (Int32.not_lt.mp c1) c2
      rw [decide_eq_true c9] at hK
      refine ⟨d, rfl, rfl, And.intro (fun c3 => ?_) (fun c3 => ?_)⟩
      · rw [bI_n0.mp c3] at hK
        obtain ⟨p, rfl, hp, hcp⟩ := perI ho c
        obtain ⟨r, rfl, hr⟩ := inI (by have := hro.1; omega) c9
        rw [hcp, nI_clamp (by have := hro.1; omega)] at hK
        refine ⟨_, _, _, _, _, _, _, _, _, _, _, _, _, _, _, _, _, _, _, _, _, _, _, _, _, _, _, _, p, r, d, rfl, rfl, ho, hro, hL, hp, hr, And.intro (fun c4 => ?_) (fun c4 => ?_)⟩
        · rw [bI_0.mp c4] at hK
          exact ⟨_, _, _, _, _, _, _, _, _, _, _, _, _, _, _, _, _, _, _, _, _, _, _, _, rfl, rfl, hK⟩
        · rw [bI_n0.mp c4] at hK
          exact ⟨_, _, _, _, _, _, _, _, _, _, _, _, _, _, _, _, _, _, _, _, _, _, _, _, rfl, rfl, hK⟩
      · rw [bI_0.mp c3] at hK
        exact ⟨_, _, _, _, _, _, _, _, _, _, _, _, _, _, _, _, _, _, _, _, _, _, _, _, rfl, rfl, hK⟩
    · rw [decide_eq_false (fun z => c2 z.2)] at hK
      exact ⟨_, _, _, _, _, _, _, _, _, _, _, _, _, _, _, _, _, _, _, _, _, _, _, _, rfl, rfl, hK⟩
def tX14_nowhere : List q_I := [(0, .aload_n 0, 1, 0, 0), (1, .iconst 0, 1, 0, 0), (2, .putfield 123, 3, 0, 0), (5, .aload_n 0, 1, 0, 0), (6, .iconst 3, 1, 3, 0), (7, .iload_n 1, 1, 0, 0), (8, .invokevirtual 407, 3, 0, 0), (11, .ifCond .ne 9, 3, 0, 20), (14, .aload_n 0, 1, 0, 0), (15, .iconst 1, 1, 1, 0), (16, .invokevirtual 365, 3, 0, 0), (19, .ireturn, 1, 0, 0), (20, .iload_n 2, 1, 0, 0), (21, .invokestatic 411, 3, 0, 0), (24, .ifCond .ne 9, 3, 0, 33), (27, .aload_n 0, 1, 0, 0), (28, .iconst 2, 1, 2, 0), (29, .invokevirtual 365, 3, 0, 0), (32, .ireturn, 1, 0, 0), (33, .iconst 0, 1, 0, 0), (34, .istore_n 3, 1, 0, 0), (35, .iconst 0, 1, 0, 0), (36, .istore 4, 2, 0, 0), (38, .iload 4, 2, 0, 0), (40, .aload_n 0, 1, 0, 0), (41, .getfield 382, 3, 0, 0), (44, .if_icmp .ge 112, 3, 0, 156), (47, .iconst 0, 1, 0, 0), (48, .istore 5, 2, 0, 0), (50, .bipush 8, 2, 8, 0), (52, .iload 4, 2, 0, 0), (54, .imul, 1, 0, 0), (55, .istore 6, 2, 0, 0), (57, .iload 6, 2, 0, 0), (59, .bipush 8, 2, 8, 0), (61, .iload 4, 2, 0, 0), (63, .imul, 1, 0, 0), (64, .aload_n 0, 1, 0, 0), (65, .getfield 28, 3, 0, 0), (68, .iload 4, 2, 0, 0), (70, .iaload, 1, 0, 0), (71, .iadd, 1, 0, 0), (72, .if_icmp .ge 54, 3, 0, 126), (75, .iload 5, 2, 0, 0), (77, .ifCond .ne 36, 3, 0, 113), (80, .aload_n 0, 1, 0, 0), (81, .getfield 31, 3, 0, 0), (84, .iload 6, 2, 0, 0), (86, .iaload, 1, 0, 0), (87, .iload_n 1, 1, 0, 0), (88, .if_icmp .ne 29, 3, 0, 117), (91, .iload_n 2, 1, 0, 0), (92, .aload_n 0, 1, 0, 0), (93, .getfield 37, 3, 0, 0), (96, .iload 6, 2, 0, 0), (98, .iaload, 1, 0, 0), (99, .if_icmp .lt 18, 3, 0, 117), (102, .iload_n 2, 1, 0, 0), (103, .aload_n 0, 1, 0, 0), (104, .getfield 40, 3, 0, 0), (107, .iload 6, 2, 0, 0), (109, .iaload, 1, 0, 0), (110, .if_icmp .gt 7, 3, 0, 117), (113, .iconst 1, 1, 1, 0), (114, .goto 4, 3, 0, 118), (117, .iconst 0, 1, 0, 0), (118, .istore 5, 2, 0, 0), (120, .iinc 6 1, 3, 1, 0), (123, .goto (-66), 3, 0, 57), (126, .iload_n 3, 1, 0, 0), (127, .iload 5, 2, 0, 0), (129, .ifCond .eq 18, 3, 0, 147), (132, .aload_n 0, 1, 0, 0), (133, .iload 4, 2, 0, 0), (135, .iload_n 1, 1, 0, 0), (136, .iload_n 2, 1, 0, 0), (137, .invokevirtual 437, 3, 0, 0), (140, .ifCond .ne 7, 3, 0, 147), (143, .iconst 1, 1, 1, 0), (144, .goto 4, 3, 0, 148), (147, .iconst 0, 1, 0, 0), (148, .iadd, 1, 0, 0), (149, .istore_n 3, 1, 0, 0), (150, .iinc 4 1, 3, 1, 0), (153, .goto (-115), 3, 0, 38), (156, .aload_n 0, 1, 0, 0), (157, .iload_n 3, 1, 0, 0), (158, .invokevirtual 397, 3, 0, 0), (161, .ireturn, 1, 0, 0)]
theorem tX14_nowhere_ok : (tX14_nowhere.all (q_okI cX14_nowhere)) = true := by decide +kernel

abbrev fdX14_nowhere : List (Nat ⊕ (Nat × Nat)) := [.inl 0, .inr (0, 7), .inr (0, 17), .inr (0, 18), .inr (0, 19), .inr (0, 20), .inr (0, 21), .inr (0, 22), .inr (0, 23), .inr (0, 26), .inr (0, 27), .inr (0, 28), .inr (0, 31), .inr (0, 32), .inr (0, 33), .inr (0, 34), .inr (0, 36), .inr (0, 37), .inr (0, 38), .inr (0, 39), .inr (0, 40), .inr (0, 41), .inr (0, 43), .inr (0, 44), .inr (0, 45), .inr (0, 46), .inr (0, 47), .inr (0, 48), .inr (0, 50), .inr (0, 51), .inr (0, 52), .inr (0, 4), .inr (31, 0), .inr (31, 1), .inr (31, 2), .inr (31, 3), .inr (31, 8), .inr (31, 9), .inr (31, 10), .inr (31, 11), .inr (31, 12), .inr (31, 13), .inr (31, 14), .inr (31, 15), .inr (31, 16), .inr (31, 17), .inr (31, 18), .inr (31, 19), .inr (31, 20), .inr (31, 21), .inr (31, 22), .inr (31, 23), .inr (31, 24), .inr (31, 25), .inr (31, 26), .inr (31, 27), .inr (31, 28)]
def spX14_nowhere : q_P := fun a w K => ∃ (th : Int32) (tr : Int32) (wh : Int32) (fa : Int32) (ta : Nat) (sz : Int32) (ix : Int32) (so : Int32) (pl : Int32) (nu : Int32) (wd : Int64) (td : Int32) (mk : Int32) (mo : Int32) (tx : Nat → Int32) (P : PT) (D : DT) (ea : Nat → Int32) (pa : Nat → Int32) (co : Nat → Int32) (S : ST) (Cc : CT) (V : VT) (ba : Nat → Int32) (B : BT) (R : RT) (L : LT) (G : GT) (n : Nat) (k d : Int32), w = (modelW 0 (tk 0 5) (tk 0 6) th tr wh fa ta sz ix so pl nu wd td mk mo tx P D ea pa co S Cc V ba B R L G) ∧ a = [.ref 0, .int k, .int d] ∧ pOk P ∧ L_n L ≤ 24 ∧ B.1 1 = nI n ∧ n ≤ 5 ∧ (if toldB B.1 3 k = true then (if dayB d = true then K (.inl (some (.int (nI (nwF P L k d n P.2.2.2.2.2.2))))) (modelW 0 (tk 0 5) (tk 0 6) (0) (0) (-1) fa ta sz ix so pl nu wd td mk mo tx P D ea pa co S Cc V ba B R L G) else K (.inl (some (.int (-1)))) (modelW 0 (tk 0 5) (tk 0 6) (0) (2) (-1) fa ta sz ix so pl nu wd td mk mo tx P D ea pa co S Cc V ba B R L G)) else K (.inl (some (.int (-1)))) (modelW 0 (tk 0 5) (tk 0 6) (0) (1) (-1) fa ta sz ix so pl nu wd td mk mo tx P D ea pa co S Cc V ba B R L G))
abbrev csX14_nowhere : q_S := (3, 14, 4, 7, 0, 0, fdX14_nowhere, spX14_nowhere)
def EX14_nowhere : q_E := (tX14_nowhere, [(38, [0, 1, 2, 3, 4]), (57, [0, 1, 2, 3, 4, 5, 6])], 7, flX14, [(407, csX14_isOf), (365, csX14_refused), (411, csX14_isDay), (437, csX14_goodIn), (397, csX14_done)], [], [], [], [], [], 4, 0, 0, (some .int), [], [], 0, 0)
theorem okX14_nowhere (l : Launch) : q_Eok l RX14 cX14_nowhere EX14_nowhere := ⟨tX14_nowhere_ok, flX14_ok, List.forall_mem_cons.mpr ⟨(coX14_407 l), List.forall_mem_cons.mpr ⟨(coX14_365 l), List.forall_mem_cons.mpr ⟨(coX14_411 l), List.forall_mem_cons.mpr ⟨(coX14_437 l), List.forall_mem_cons.mpr ⟨(coX14_397 l), q_nil⟩⟩⟩⟩⟩, q_nil, q_nil, q_nil, q_nil, q_nil, (fun h => absurd h (by decide))⟩
set_option maxRecDepth 100000 in
set_option maxHeartbeats 4000000 in
theorem ctX14_nowhere (l : Launch) : q_CT l yX14_nowhere (.code yX14_nowhere cX14_nowhere 7 (some .int)) 4 0 0 spX14_nowhere := by
  refine q_ct_of EX14_nowhere (by decide +kernel) (okX14_nowhere l) rfl rfl rfl rfl rfl q_nil (fun ci h => by cases h) rfl ?_
  intro a w K h
  obtain ⟨th, tr, wh, fa, ta, sz, ix, so, pl, nu, wd, td, mk, mo, tx, P, D, ea, pa, co, S, Cc, V, ba, B, R, L, G, n, k, d, rfl, rfl, ho, hL, hB, hn, hK⟩ := h
  refine ⟨Nat.le_of_ble_eq_true rfl, fun C hC => hC _ _ _ _ _ _ ?_⟩
  have hpc := ho.1
  refine ⟨_, _, _, _, _, _, _, _, _, _, _, _, _, _, _, _, _, _, _, _, _, _, _, _, 3, k, rfl, rfl, by decide, And.intro (fun c => ?_) (fun c => ?_)⟩
  · rw [if_pos (bI_n0.mp c)] at hK
    refine ⟨d, rfl, rfl, And.intro (fun c2 => ?_) (fun c2 => ?_)⟩
    · rw [if_pos (bI_n0.mp c2)] at hK
      have outer : ∀ j i, i + j = P.2.2.2.2.2.2 → C 38 [(0, .ref 0), (1, .int k), (2, .int d), (3, .int (nI (nwF P L k d n i))), (4, .int (nI i))] [] (modelW 0 (tk 0 5) (tk 0 6) (0) tr wh fa ta sz ix so pl nu wd td mk mo tx P D ea pa co S Cc V ba B R L G) 0 0 := by
        intro j
        induction j with
        | zero =>
          intro i hi
          have hi : i = P.2.2.2.2.2.2 := hi
          subst hi
          refine hC _ _ _ _ _ _ (And.intro (fun c3 => ⟨_, _, _, _, _, _, _, _, _, _, _, _, _, _, _, _, _, _, _, _, _, _, _, _, rfl, rfl, hK⟩) (fun c3 => absurd (nI_le (Nat.le_refl _) (by omega)) c3))
        | succ j ih =>
          intro i hi
          have h9 := ih (i + 1) (by omega)
          rw [nwF] at h9
          obtain ⟨h1, h2, h3, h4, h5⟩ := pOk_ix ho (show i < P.2.2.2.2.2.2 by omega)
          have e0 : 8 * nI i = nI (i * 8) := nI_8m i
          have e : 8 * nI i + P.2.1 (nI i).toNatClampNeg = nI (i * 8 + pcN P i) := by rw [nI_8m, h2, h3, nI_add]
          have inner : ∀ m q (b : Bool), q + m = pcN P i → (b || anyF (fun t => decide (P.2.2.1 t = k) && lastsP P d t) (i * 8 + q) m) = hasLast P i k d → C 57 [(0, .ref 0), (1, .int k), (2, .int d), (3, .int (nI (nwF P L k d n i))), (4, .int (nI i)), (5, .int (bI b)), (6, .int (nI (i * 8 + q)))] [] (modelW 0 (tk 0 5) (tk 0 6) (0) tr wh fa ta sz ix so pl nu wd td mk mo tx P D ea pa co S Cc V ba B R L G) 0 0 := by
            intro m
            induction m with
            | zero =>
              intro q b hq hb
              rw [anyF, Bool.or_false] at hb
              refine hC _ _ _ _ _ _ ⟨h1, And.intro (fun c3 => ?_) (fun c3 => absurd (by rw [e]; exact nI_le (by omega) (by omega)) c3)⟩
              have nx : ∀ z : Bool, z = nwB P L k d n i → C 38 [(0, .ref 0), (1, .int k), (2, .int d), (3, .int (nI (nwF P L k d n i) + bI z)), (4, .int (nI i + 1))] [] (modelW 0 (tk 0 5) (tk 0 6) (0) tr wh fa ta sz ix so pl nu wd td mk mo tx P D ea pa co S Cc V ba B R L G) 0 0 := by
                intro z hz
                rw [← hz] at h9
                cases z with
                | false =>
                  rw [show nI (nwF P L k d n i) + bI false = nI (nwF P L k d n i) from Int32.add_zero _, nI_1]
                  exact h9
                | true =>
                  rw [show nI (nwF P L k d n i) + bI true = nI (nwF P L k d n i + 1) from nI_1 _, nI_1]
                  exact h9
              refine And.intro (fun c4 => ?_) (fun c4 => ⟨_, _, _, _, _, _, _, _, _, _, _, _, _, _, _, _, _, _, _, _, _, _, _, _, _, _, _, _, n, i, k, d, rfl, rfl, ho, hL, by omega, hB, hn, And.intro (fun c5 => ?_) (fun c5 => ?_)⟩)
              · exact nx false (by rw [nwB, ← hb, bI_0.mp c4, Bool.false_and])
              · exact nx false (by rw [nwB, decide_eq_false c5, Bool.and_false])
              · exact nx true (by rw [nwB, ← hb, bI_n0.mp c4, decide_eq_true c5]; rfl)
            | succ m ih2 =>
              intro q b hq hb
              rw [anyF] at hb
              have hv : vp_in (nI (i * 8 + q)) 240 := vp_in_nI (by omega) (by omega)
              have hc : (nI (i * 8 + q)).toNatClampNeg = i * 8 + q := nI_clamp (by omega)
              have nx : ∀ z : Bool, z = (b || (decide (P.2.2.1 (i * 8 + q) = k) && lastsP P d (i * 8 + q))) → C 57 [(0, .ref 0), (1, .int k), (2, .int d), (3, .int (nI (nwF P L k d n i))), (4, .int (nI i)), (5, .int (bI z)), (6, .int (nI (i * 8 + q) + 1))] [] (modelW 0 (tk 0 5) (tk 0 6) (0) tr wh fa ta sz ix so pl nu wd td mk mo tx P D ea pa co S Cc V ba B R L G) 0 0 := by
                intro z hz
                have h8 := ih2 (q + 1) z (by omega) (by rw [hz, Bool.or_assoc, show i * 8 + (q + 1) = i * 8 + q + 1 by omega]; exact hb)
                rw [nI_1]
                exact h8
              refine hC _ _ _ _ _ _ ⟨h1, And.intro (fun c3 => absurd c3 (by rw [e]; exact nI_ge (by omega) (by omega))) (fun c3 => And.intro (fun c4 => ?_) (fun c4 => ⟨hv, And.intro (fun c5 => ?_) (fun c5 => ⟨hv, And.intro (fun c6 => ?_) (fun c6 => ⟨hv, And.intro (fun c7 => ?_) (fun c7 => ?_)⟩)⟩)⟩))⟩
              · exact nx true (by rw [bI_n0.mp c4, Bool.true_or])
              · rw [hc] at c5
                exact nx false (by rw [bI_0.mp c4, decide_eq_false c5, Bool.false_and, Bool.or_false])
              · rw [hc] at c6
                exact nx false (by rw [bI_0.mp c4, lastsP, decide_eq_false (Int32.not_le.mpr c6), Bool.false_and, Bool.and_false, Bool.or_false])
              · rw [hc] at c7
                exact nx false (by rw [bI_0.mp c4, lastsP, decide_eq_false (Int32.not_le.mpr c7), Bool.and_false, Bool.and_false, Bool.or_false])
              · rw [hc] at c5 c6 c7
                exact nx true (by rw [lastsP, decide_eq_true c5, decide_eq_true (Int32.not_lt.mp c6), decide_eq_true (Int32.not_lt.mp c7), Bool.and_self, Bool.and_self, Bool.or_true])
          have h8 := inner (pcN P i) 0 false (by omega) (Bool.false_or _)
          rw [Nat.add_zero, ← e0] at h8
          exact hC _ _ _ _ _ _ (And.intro (fun c3 => absurd c3 (nI_ge (by omega) (by omega))) (fun c3 => h8))
      exact outer P.2.2.2.2.2.2 0 (by omega)
    · rw [if_neg (by rw [bI_0.mp c2]; decide)] at hK
      exact ⟨_, _, _, _, _, _, _, _, _, _, _, _, _, _, _, _, _, _, _, _, _, _, _, _, rfl, rfl, hK⟩
  · rw [if_neg (by rw [bI_0.mp c]; decide)] at hK
    exact ⟨_, _, _, _, _, _, _, _, _, _, _, _, _, _, _, _, _, _, _, _, _, _, _, _, rfl, rfl, hK⟩
