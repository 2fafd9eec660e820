/-- the strip, the told numbers of its book and its laws -/
def stripL (tl hb td tr lf m : Int32) (T : Nat → Int32) (L : LT) : List q_C := [.inr (11, [tk 0 0, .int tl, .ref 1, tk 0 3, tk 0 4, .int hb, .int td, tk 0 7, tk 0 8, tk 0 9, tk 0 10, tk 0 11, tk 0 12, .int tr, .int lf]), .inr (0, [.ref 2, tk 1 1, tk 1 2, tk 1 3, .int m, tk 1 5, .ref 3, tk 1 7]), .inl (1, 4, .inl T)] ++ lawsW 3 L
def whyI (r : Option Nat) : Int32 := if oI r = -1 then -2 else oI r

def tX11_why : List q_I := [(0, .aload_n 0, 1, 0, 0), (1, .iload_n 1, 1, 0, 0), (2, .iload_n 2, 1, 0, 0), (3, .iload_n 3, 1, 0, 0), (4, .iload 4, 2, 0, 0), (6, .iload 5, 2, 0, 0), (8, .invokevirtual 134, 3, 0, 0), (11, .istore 6, 2, 0, 0), (13, .iload 6, 2, 0, 0), (15, .ifCond .eq 10, 3, 0, 25), (18, .aload_n 0, 1, 0, 0), (19, .iload 6, 2, 0, 0), (21, .invokevirtual 84, 3, 0, 0), (24, .ireturn, 1, 0, 0), (25, .aload_n 0, 1, 0, 0), (26, .getfield 16, 3, 0, 0), (29, .getfield 104, 3, 0, 0), (32, .iload_n 1, 1, 0, 0), (33, .iload_n 2, 1, 0, 0), (34, .iload_n 3, 1, 0, 0), (35, .iload 4, 2, 0, 0), (37, .iload 5, 2, 0, 0), (39, .invokevirtual 138, 3, 0, 0), (42, .istore 7, 2, 0, 0), (44, .aload_n 0, 1, 0, 0), (45, .iload 7, 2, 0, 0), (47, .iconst (-1), 1, (-1), 0), (48, .if_icmp .ne 8, 3, 0, 56), (51, .bipush (-2), 2, (-2), 0), (53, .goto 5, 3, 0, 58), (56, .iload 7, 2, 0, 0), (58, .invokevirtual 113, 3, 0, 0), (61, .ireturn, 1, 0, 0)]
theorem tX11_why_ok : (tX11_why.all (q_okI cX11_why)) = true := by decide +kernel

abbrev fdX11_why : List (Nat ⊕ (Nat × Nat)) := [.inl 0, .inr (0, 2), .inr (1, 0), .inr (1, 6), .inr (3, 0), .inr (3, 1), .inr (3, 2), .inr (3, 3), .inr (3, 4), .inr (3, 5), .inr (3, 6)]
def spX11_why : q_P := fun a w K => ∃ (tl hb td tr lf m ld kd o d kn : Int32) (T : Nat → Int32) (L : LT), w = stripL tl hb td tr lf m T L ∧ a = [.ref 0, .int ld, .int kd, .int o, .int d, .int kn] ∧ L_n L ≤ 24 ∧ (if rulR T ld kd o d kn = 0 then K (.inl (some (.int (whyI (ruling L ld kd o d kn))))) (stripL tl hb td 0 lf m T L) else K (.inl (some (.int (-1)))) (stripL tl hb td (rulR T ld kd o d kn) lf m T L))
abbrev csX11_why : q_S := (6, 11, 3, 8, 0, 0, fdX11_why, spX11_why)
theorem coX11_134 (l : Launch) : q_CO l RX11 134 csX11_rulingRefusal := ⟨yX11_rulingRefusal, cX11_rulingRefusal, (some .int), 5, ⟨by decide +kernel, by decide +kernel, by decide +kernel⟩, q_G_i 1 (by decide +kernel) rfl, Or.inl ⟨by decide, rfl, rfl, q_G_i 739 (by decide +kernel) rfl, q_G_i 741 (by decide +kernel) rfl, q_G_s (n := 15) 21 (by decide +kernel), Or.inl ⟨q_G_i 742 (by decide +kernel) rfl, ctX11_rulingRefusal l⟩⟩⟩
theorem coX11_138 (l : Launch) : q_CO l RX11 138 csX3_ruling := ⟨yX3_ruling, cX3_ruling, (some .int), 5, ⟨by decide +kernel, by decide +kernel, by decide +kernel⟩, q_G_i 4 (by decide +kernel) rfl, Or.inl ⟨by decide, rfl, rfl, q_G_i 754 (by decide +kernel) rfl, q_G_i 755 (by decide +kernel) rfl, q_G_i 756 (by decide +kernel) rfl, Or.inl ⟨q_G_i 757 (by decide +kernel) rfl, ctX3_ruling l⟩⟩⟩
def EX11_why : q_E := (tX11_why, [], 8, flX11, [(134, csX11_rulingRefusal), (84, csX11_refuse), (138, csX3_ruling), (113, csX11_grant)], [], [], [], [], [], 3, 0, 0, (some .int), [], [], 0, 0)
theorem okX11_why (l : Launch) : q_Eok l RX11 cX11_why EX11_why := ⟨tX11_why_ok, flX11_ok, List.forall_mem_cons.mpr ⟨(coX11_134 l), List.forall_mem_cons.mpr ⟨(coX11_84 l), List.forall_mem_cons.mpr ⟨(coX11_138 l), List.forall_mem_cons.mpr ⟨(coX11_113 l), q_nil⟩⟩⟩⟩, q_nil, q_nil, q_nil, q_nil, q_nil, (fun h => absurd h (by decide))⟩
set_option maxRecDepth 100000 in
set_option maxHeartbeats 4000000 in
theorem ctX11_why (l : Launch) : q_CT l yX11_why (.code yX11_why cX11_why 8 (some .int)) 3 0 0 spX11_why := by
  refine q_ct_of EX11_why (by decide +kernel) (okX11_why l) rfl rfl rfl rfl rfl q_nil (fun ci h => by cases h) rfl ?_
  intro a w K h
  obtain ⟨tl, hb, td, tr, lf, m, ld, kd, o, d, kn, T, L, rfl, rfl, hL, hK⟩ := h
  refine ⟨Nat.le_of_ble_eq_true rfl, fun C hC => hC _ _ _ _ _ _ ?_⟩
  refine ⟨tl, hb, td, tr, lf, m, ld, kd, o, d, kn, T, rfl, rfl, And.intro (fun c => ?_) (fun c => ?_)⟩
  · rw [if_pos c] at hK
    refine ⟨L, _, _, _, _, _, rfl, rfl, hL, And.intro (fun c2 => ?_) (fun c2 => ?_)⟩
    · rw [whyI, if_neg c2] at hK
      exact ⟨tl, hb, td, tr, lf, _, rfl, rfl, hK⟩
    · rw [whyI, if_pos c2] at hK
      exact ⟨tl, hb, td, tr, lf, _, rfl, rfl, hK⟩
  · rw [if_neg c] at hK
    exact ⟨tl, hb, td, tr, lf, _, rfl, rfl, hK⟩
def tX11_takes : List q_I := [(0, .aload_n 0, 1, 0, 0), (1, .iload_n 1, 1, 0, 0), (2, .iload_n 2, 1, 0, 0), (3, .iload_n 3, 1, 0, 0), (4, .iload 4, 2, 0, 0), (6, .iload 5, 2, 0, 0), (8, .invokevirtual 134, 3, 0, 0), (11, .istore 6, 2, 0, 0), (13, .iload 6, 2, 0, 0), (15, .ifCond .eq 10, 3, 0, 25), (18, .aload_n 0, 1, 0, 0), (19, .iload 6, 2, 0, 0), (21, .invokevirtual 84, 3, 0, 0), (24, .ireturn, 1, 0, 0), (25, .aload_n 0, 1, 0, 0), (26, .getfield 16, 3, 0, 0), (29, .getfield 104, 3, 0, 0), (32, .iload_n 1, 1, 0, 0), (33, .iload_n 2, 1, 0, 0), (34, .iload_n 3, 1, 0, 0), (35, .iload 4, 2, 0, 0), (37, .iload 5, 2, 0, 0), (39, .invokevirtual 138, 3, 0, 0), (42, .istore 7, 2, 0, 0), (44, .aload_n 0, 1, 0, 0), (45, .aload_n 0, 1, 0, 0), (46, .getfield 16, 3, 0, 0), (49, .getfield 104, 3, 0, 0), (52, .iload 7, 2, 0, 0), (54, .invokevirtual 141, 3, 0, 0), (57, .ifCond .eq 7, 3, 0, 64), (60, .iconst 1, 1, 1, 0), (61, .goto 4, 3, 0, 65), (64, .iconst 0, 1, 0, 0), (65, .invokevirtual 113, 3, 0, 0), (68, .ireturn, 1, 0, 0)]
theorem tX11_takes_ok : (tX11_takes.all (q_okI cX11_takes)) = true := by decide +kernel

abbrev fdX11_takes : List (Nat ⊕ (Nat × Nat)) := [.inl 0, .inr (0, 2), .inr (1, 0), .inr (1, 6), .inr (3, 0), .inr (3, 1), .inr (3, 2), .inr (3, 3), .inr (3, 4), .inr (3, 5), .inr (3, 6)]
def spX11_takes : q_P := fun a w K => ∃ (tl hb td tr lf m ld kd o d kn : Int32) (T : Nat → Int32) (L : LT), w = stripL tl hb td tr lf m T L ∧ a = [.ref 0, .int ld, .int kd, .int o, .int d, .int kn] ∧ L_n L ≤ 24 ∧ (if rulR T ld kd o d kn = 0 then K (.inl (some (.int (bI (saysT L (ruling L ld kd o d kn)))))) (stripL tl hb td 0 lf m T L) else K (.inl (some (.int (-1)))) (stripL tl hb td (rulR T ld kd o d kn) lf m T L))
abbrev csX11_takes : q_S := (6, 11, 3, 8, 0, 0, fdX11_takes, spX11_takes)
theorem coX11_141 (l : Launch) : q_CO l RX11 141 csX3_saysTakes := ⟨yX3_saysTakes, cX3_saysTakes, (some .boolean), 1, ⟨by decide +kernel, by decide +kernel, by decide +kernel⟩, q_G_i 4 (by decide +kernel) rfl, Or.inl ⟨by decide, rfl, rfl, q_G_i 758 (by decide +kernel) rfl, q_G_i 759 (by decide +kernel) rfl, q_G_i 760 (by decide +kernel) rfl, Or.inl ⟨q_G_i 761 (by decide +kernel) rfl, ctX3_saysTakes l⟩⟩⟩
def EX11_takes : q_E := (tX11_takes, [], 8, flX11, [(134, csX11_rulingRefusal), (84, csX11_refuse), (138, csX3_ruling), (141, csX3_saysTakes), (113, csX11_grant)], [], [], [], [], [], 3, 0, 0, (some .int), [], [], 0, 0)
theorem okX11_takes (l : Launch) : q_Eok l RX11 cX11_takes EX11_takes := ⟨tX11_takes_ok, flX11_ok, List.forall_mem_cons.mpr ⟨(coX11_134 l), List.forall_mem_cons.mpr ⟨(coX11_84 l), List.forall_mem_cons.mpr ⟨(coX11_138 l), List.forall_mem_cons.mpr ⟨(coX11_141 l), List.forall_mem_cons.mpr ⟨(coX11_113 l), q_nil⟩⟩⟩⟩⟩, q_nil, q_nil, q_nil, q_nil, q_nil, (fun h => absurd h (by decide))⟩
set_option maxRecDepth 100000 in
set_option maxHeartbeats 4000000 in
theorem ctX11_takes (l : Launch) : q_CT l yX11_takes (.code yX11_takes cX11_takes 8 (some .int)) 3 0 0 spX11_takes := by
  refine q_ct_of EX11_takes (by decide +kernel) (okX11_takes l) rfl rfl rfl rfl rfl q_nil (fun ci h => by cases h) rfl ?_
  intro a w K h
  obtain ⟨tl, hb, td, tr, lf, m, ld, kd, o, d, kn, T, L, rfl, rfl, hL, hK⟩ := h
  refine ⟨Nat.le_of_ble_eq_true rfl, fun C hC => hC _ _ _ _ _ _ ?_⟩
  refine ⟨tl, hb, td, tr, lf, m, ld, kd, o, d, kn, T, rfl, rfl, And.intro (fun c => ?_) (fun c => ?_)⟩
  · rw [if_pos c] at hK
    refine ⟨L, _, _, _, _, _, rfl, rfl, hL, L, ruling L ld kd o d kn, rfl, rfl, hL, fun i hi => rulO_lt hi, And.intro (fun c2 => ?_) (fun c2 => ?_)⟩
    · rw [bI_0.mp c2] at hK
      exact ⟨tl, hb, td, tr, lf, _, rfl, rfl, hK⟩
    · rw [bI_n0.mp c2] at hK
      exact ⟨tl, hb, td, tr, lf, _, rfl, rfl, hK⟩
  · rw [if_neg c] at hK
    exact ⟨tl, hb, td, tr, lf, _, rfl, rfl, hK⟩
