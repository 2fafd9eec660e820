def dayB (x : Int32) : Bool := decide (0 ≤ x ∧ x ≤ 999)
def rulR (T : Nat → Int32) (ld kd o d kn : Int32) : Int32 := if toldB T 1 ld && sortB T kd o then (if dayB d && dayB kn then 0 else 2) else 1

def tX11_rulingRefusal : List q_I := [(0, .aload_n 0, 1, 0, 0), (1, .getfield 16, 3, 0, 0), (4, .iconst 1, 1, 1, 0), (5, .iload_n 1, 1, 0, 0), (6, .invokevirtual 145, 3, 0, 0), (9, .ifCond .eq 12, 3, 0, 21), (12, .aload_n 0, 1, 0, 0), (13, .iload_n 2, 1, 0, 0), (14, .iload_n 3, 1, 0, 0), (15, .invokevirtual 149, 3, 0, 0), (18, .ifCond .ne 5, 3, 0, 23), (21, .iconst 1, 1, 1, 0), (22, .ireturn, 1, 0, 0), (23, .iload 4, 2, 0, 0), (25, .invokestatic 152, 3, 0, 0), (28, .ifCond .eq 15, 3, 0, 43), (31, .iload 5, 2, 0, 0), (33, .invokestatic 152, 3, 0, 0), (36, .ifCond .eq 7, 3, 0, 43), (39, .iconst 0, 1, 0, 0), (40, .goto 4, 3, 0, 44), (43, .iconst 2, 1, 2, 0), (44, .ireturn, 1, 0, 0)]
theorem tX11_rulingRefusal_ok : (tX11_rulingRefusal.all (q_okI cX11_rulingRefusal)) = true := by decide +kernel

abbrev fdX11_rulingRefusal : List (Nat ⊕ (Nat × Nat)) := [.inl 0, .inr (0, 2), .inr (1, 0)]
def spX11_rulingRefusal : q_P := fun a w K => ∃ (tl hb td tr lf m ld kd o d kn : Int32) (T : Nat → Int32), w = stripT tl hb td tr lf m T ∧ a = [.ref 0, .int ld, .int kd, .int o, .int d, .int kn] ∧ K (.inl (some (.int (rulR T ld kd o d kn)))) (stripT tl hb td tr lf m T)
abbrev csX11_rulingRefusal : q_S := (6, 11, 2, 6, 0, 0, fdX11_rulingRefusal, spX11_rulingRefusal)
theorem coX11_149 (l : Launch) : q_CO l RX11 149 csX11_isPaperSort := ⟨yX11_isPaperSort, cX11_isPaperSort, (some .boolean), 2, ⟨by decide +kernel, by decide +kernel, by decide +kernel⟩, q_G_i 1 (by decide +kernel) rfl, Or.inl ⟨by decide, rfl, rfl, q_G_i 753 (by decide +kernel) rfl, q_G_i 755 (by decide +kernel) rfl, q_G_s (n := 15) 22 (by decide +kernel), Or.inl ⟨q_G_i 756 (by decide +kernel) rfl, ctX11_isPaperSort l⟩⟩⟩
theorem coX11_152 (l : Launch) : q_CO l RX11 152 csX11_isDay := ⟨yX11_isDay, cX11_isDay, (some .boolean), 1, ⟨by decide +kernel, by decide +kernel, by decide +kernel⟩, q_G_i 1 (by decide +kernel) rfl, Or.inr (Or.inr (Or.inr ⟨rfl, rfl, q_G_i 757 (by decide +kernel) rfl, q_G_i 758 (by decide +kernel) rfl, Or.inl ⟨q_G_i 759 (by decide +kernel) rfl, ctX11_isDay l⟩⟩))⟩
def EX11_rulingRefusal : q_E := (tX11_rulingRefusal, [], 6, flX11, [(145, csX0_has), (149, csX11_isPaperSort), (152, csX11_isDay)], [], [], [], [], [], 2, 0, 0, (some .int), [], [], 0, 0)
theorem okX11_rulingRefusal (l : Launch) : q_Eok l RX11 cX11_rulingRefusal EX11_rulingRefusal := ⟨tX11_rulingRefusal_ok, flX11_ok, List.forall_mem_cons.mpr ⟨(coX11_145 l), List.forall_mem_cons.mpr ⟨(coX11_149 l), List.forall_mem_cons.mpr ⟨(coX11_152 l), q_nil⟩⟩⟩, q_nil, q_nil, q_nil, q_nil, q_nil, (fun h => absurd h (by decide))⟩
set_option maxRecDepth 100000 in
set_option maxHeartbeats 4000000 in
theorem ctX11_rulingRefusal (l : Launch) : q_CT l yX11_rulingRefusal (.code yX11_rulingRefusal cX11_rulingRefusal 6 (some .int)) 2 0 0 spX11_rulingRefusal := by
  refine q_ct_of EX11_rulingRefusal (by decide +kernel) (okX11_rulingRefusal l) rfl rfl rfl rfl rfl q_nil (fun ci h => by cases h) rfl ?_
  intro a w K h
  obtain ⟨tl, hb, td, tr, lf, m, ld, kd, o, d, kn, T, rfl, rfl, hK⟩ := h
  refine ⟨Nat.le_of_ble_eq_true rfl, fun C hC => hC _ _ _ _ _ _ ?_⟩
  rw [rulR] at hK
  refine ⟨T, 1, ld, _, _, _, _, _, _, _, rfl, rfl, by decide, And.intro (fun c => ?_) (fun c => ?_)⟩
  · have c : toldB T 1 ld = false := bI_0.mp c
    rw [c, Bool.false_and] at hK; exact hK
  · have c : toldB T 1 ld = true := bI_n0.mp c
    rw [c, Bool.true_and] at hK
    refine ⟨tl, hb, td, tr, lf, m, kd, o, T, rfl, rfl, And.intro (fun c2 => ?_) (fun c2 => ?_)⟩
    · rw [bI_n0.mp c2, if_pos rfl] at hK
      refine ⟨d, rfl, rfl, And.intro (fun c3 => ?_) (fun c3 => ?_)⟩
      · have c3 : dayB d = false := bI_0.mp c3
        rw [c3] at hK; exact hK
      · have c3 : dayB d = true := bI_n0.mp c3
        rw [c3, Bool.true_and] at hK
        refine ⟨kn, rfl, rfl, And.intro (fun c4 => ?_) (fun c4 => ?_)⟩
        · have c4 : dayB kn = false := bI_0.mp c4
          rw [c4] at hK; exact hK
        · have c4 : dayB kn = true := bI_n0.mp c4
          rw [c4] at hK; exact hK
    · rw [bI_0.mp c2] at hK; exact hK
