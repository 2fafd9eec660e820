/-- the strip, the told numbers of its book and its people -/
def stripP (tl hb td tr lf m : Int32) (T : Nat → Int32) (P : PT) : List q_C := [.inr (11, [tk 0 0, .int tl, .ref 1, tk 0 3, tk 0 4, .int hb, .int td, .ref 3, tk 0 8, tk 0 9, tk 0 10, tk 0 11, tk 0 12, .int tr, .int lf]), .inr (0, [.ref 2, tk 1 1, tk 1 2, tk 1 3, .int m, tk 1 5, tk 1 6, tk 1 7]), .inl (1, 4, .inl T)] ++ peopleW 3 P

def tX11_person : List q_I := [(0, .aload_n 0, 1, 0, 0), (1, .getfield 16, 3, 0, 0), (4, .iconst 0, 1, 0, 0), (5, .iload_n 1, 1, 0, 0), (6, .invokevirtual 145, 3, 0, 0), (9, .ifCond .ne 9, 3, 0, 18), (12, .aload_n 0, 1, 0, 0), (13, .iconst 1, 1, 1, 0), (14, .invokevirtual 84, 3, 0, 0), (17, .ireturn, 1, 0, 0), (18, .aload_n 0, 1, 0, 0), (19, .getfield 35, 3, 0, 0), (22, .invokevirtual 155, 3, 0, 0), (25, .ifCond .ne 9, 3, 0, 34), (28, .aload_n 0, 1, 0, 0), (29, .iconst 3, 1, 3, 0), (30, .invokevirtual 84, 3, 0, 0), (33, .ireturn, 1, 0, 0), (34, .aload_n 0, 1, 0, 0), (35, .aload_n 0, 1, 0, 0), (36, .getfield 35, 3, 0, 0), (39, .iload_n 1, 1, 0, 0), (40, .invokevirtual 159, 3, 0, 0), (43, .invokevirtual 113, 3, 0, 0), (46, .ireturn, 1, 0, 0)]
theorem tX11_person_ok : (tX11_person.all (q_okI cX11_person)) = true := by decide +kernel

abbrev fdX11_person : List (Nat ⊕ (Nat × Nat)) := [.inl 0, .inr (0, 2), .inr (1, 0), .inr (0, 7), .inr (3, 0), .inr (3, 1), .inr (3, 2), .inr (3, 3), .inr (3, 4), .inr (3, 5)]
def spX11_person : q_P := fun a w K => ∃ (tl hb td tr lf m x : Int32) (T : Nat → Int32) (P : PT), w = stripP tl hb td tr lf m T P ∧ a = [.ref 0, .int x] ∧ P.2.2.2.2.2.2 ≤ 30 ∧ (if toldB T 0 x = true then (if P.2.2.2.2.2.2 < 30 then K (.inl (some (.int (nI P.2.2.2.2.2.2)))) (stripP tl hb td 0 lf m T (peopleAdd P x)) else K (.inl (some (.int (-1)))) (stripP tl hb td 3 lf m T P)) else K (.inl (some (.int (-1)))) (stripP tl hb td 1 lf m T P))
abbrev csX11_person : q_S := (2, 11, 1, 2, 0, 0, fdX11_person, spX11_person)
theorem coX11_155 (l : Launch) : q_CO l RX11 155 csX6_hasRoom := ⟨yX6_hasRoom, cX6_hasRoom, (some .boolean), 0, ⟨by decide +kernel, by decide +kernel, by decide +kernel⟩, q_G_i 7 (by decide +kernel) rfl, Or.inl ⟨by decide, rfl, rfl, q_G_i 770 (by decide +kernel) rfl, q_G_i 771 (by decide +kernel) rfl, q_G_i 772 (by decide +kernel) rfl, Or.inl ⟨q_G_i 773 (by decide +kernel) rfl, ctX6_hasRoom l⟩⟩⟩
theorem coX11_159 (l : Launch) : q_CO l RX11 159 csX6_add := ⟨yX6_add, cX6_add, (some .int), 1, ⟨by decide +kernel, by decide +kernel, by decide +kernel⟩, q_G_i 7 (by decide +kernel) rfl, Or.inl ⟨by decide, rfl, rfl, q_G_i 774 (by decide +kernel) rfl, q_G_i 775 (by decide +kernel) rfl, q_G_i 776 (by decide +kernel) rfl, Or.inl ⟨q_G_i 777 (by decide +kernel) rfl, ctX6_add l⟩⟩⟩
def EX11_person : q_E := (tX11_person, [], 2, flX11, [(145, csX0_has), (84, csX11_refuse), (155, csX6_hasRoom), (159, csX6_add), (113, csX11_grant)], [], [], [], [], [], 1, 0, 0, (some .int), [], [], 0, 0)
theorem okX11_person (l : Launch) : q_Eok l RX11 cX11_person EX11_person := ⟨tX11_person_ok, flX11_ok, List.forall_mem_cons.mpr ⟨(coX11_145 l), List.forall_mem_cons.mpr ⟨(coX11_84 l), List.forall_mem_cons.mpr ⟨(coX11_155 l), List.forall_mem_cons.mpr ⟨(coX11_159 l), List.forall_mem_cons.mpr ⟨(coX11_113 l), q_nil⟩⟩⟩⟩⟩, q_nil, q_nil, q_nil, q_nil, q_nil, (fun h => absurd h (by decide))⟩
set_option maxRecDepth 100000 in
set_option maxHeartbeats 4000000 in
theorem ctX11_person (l : Launch) : q_CT l yX11_person (.code yX11_person cX11_person 2 (some .int)) 1 0 0 spX11_person := by
  refine q_ct_of EX11_person (by decide +kernel) (okX11_person l) rfl rfl rfl rfl rfl q_nil (fun ci h => by cases h) rfl ?_
  intro a w K h
  obtain ⟨tl, hb, td, tr, lf, m, x, T, P, rfl, rfl, hP, hK⟩ := h
  refine ⟨Nat.le_of_ble_eq_true rfl, fun C hC => hC _ _ _ _ _ _ ?_⟩
  refine ⟨T, 0, x, _, _, _, _, _, _, _, rfl, rfl, by decide, And.intro (fun c => ?_) (fun c => ?_)⟩
  · have c : toldB T 0 x = true := bI_n0.mp c
    rw [if_pos c] at hK
    refine ⟨P, rfl, rfl, hP, And.intro (fun c2 => ?_) (fun c2 => ?_)⟩
    · have c2 := of_decide_eq_true (bI_n0.mp c2)
      rw [if_pos c2] at hK
      exact ⟨P, x, rfl, rfl, c2, tl, hb, td, tr, lf, _, rfl, rfl, hK⟩
    · rw [if_neg (of_decide_eq_false (bI_0.mp c2))] at hK
      exact ⟨tl, hb, td, tr, lf, _, rfl, rfl, hK⟩
  · have c : toldB T 0 x = false := bI_0.mp c
    rw [if_neg (by rw [c]; decide)] at hK
    exact ⟨tl, hb, td, tr, lf, _, rfl, rfl, hK⟩
