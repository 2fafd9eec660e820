theorem pn0 {P : PT} {x : Int32} (h : P.2.2.2.2.2.2 = 0) : decide (0 ≤ x ∧ x < nI P.2.2.2.2.2.2) = false := by
  rw [h]
  apply decide_eq_false
  intro z
  exact absurd z.2 (Int32.not_lt.mpr z.1)
theorem dn0 {D : DT} {x : Int32} (h : D.2.2.2 = 0) (h1 : ¬ x < 0) : nI D.2.2.2 ≤ x := by
  rw [h]; exact Int32.not_lt.mp h1

abbrev fdX14_paper_n : List (Nat ⊕ (Nat × Nat)) := [.inl 0, .inr (0, 7), .inr (0, 17), .inr (0, 18), .inr (0, 19), .inr (0, 20), .inr (0, 21), .inr (0, 22), .inr (0, 23), .inr (0, 26), .inr (0, 27), .inr (0, 28), .inr (0, 31), .inr (0, 32), .inr (0, 33), .inr (0, 34), .inr (0, 36), .inr (0, 37), .inr (0, 38), .inr (0, 39), .inr (0, 40), .inr (0, 41), .inr (0, 43), .inr (0, 44), .inr (0, 45), .inr (0, 46), .inr (0, 47), .inr (0, 48), .inr (0, 50), .inr (0, 51), .inr (0, 52)]
def spX14_paper_n : q_P := fun a w K => ∃ (fr : Value) (th : Int32) (tr : Int32) (wh : Int32) (fa : Int32) (ta : Nat) (sz : Int32) (ix : Int32) (so : Int32) (pl : Int32) (nu : Int32) (wd : Int64) (td : Int32) (mk : Int32) (mo : Int32) (tx : Nat → Int32) (P : PT) (D : DT) (ea : Nat → Int32) (pa : Nat → Int32) (co : Nat → Int32) (S : ST) (Cc : CT) (V : VT) (ba : Nat → Int32) (p k o f t : Int32), w = (modelN 0 fr (tk 0 6) th tr wh fa ta sz ix so pl nu wd td mk mo tx P D ea pa co S Cc V ba) ∧ a = [.ref 0, .int p, .int k, .int o, .int f, .int t] ∧ (fr = .null ∨ fr = tk 0 5) ∧ P.2.2.2.2.2.2 = 0 ∧ K (.inl (some (.int (-1)))) (modelN 0 fr (tk 0 6) (0) (1) (-1) fa ta sz ix so pl nu wd td mk mo tx P D ea pa co S Cc V ba)
abbrev csX14_paper_n : q_S := (6, 14, 2, 6, 0, 0, fdX14_paper_n, spX14_paper_n)
theorem coX14_407_n (l : Launch) : q_CO l RX14 407 csX14_isOf_n := ⟨yX14_isOf, cX14_isOf, (some .boolean), 2, ⟨by decide +kernel, by decide +kernel, by decide +kernel⟩, q_G_i 17 (by decide +kernel) rfl, Or.inl ⟨by decide, rfl, rfl, q_G_i 1703 (by decide +kernel) rfl, q_G_i 1705 (by decide +kernel) rfl, q_G_s (n := 53) 67 (by decide +kernel), Or.inl ⟨q_G_i 1706 (by decide +kernel) rfl, ctX14_isOf_n l⟩⟩⟩
def EX14_paper_n : q_E := (tX14_paper, [], 6, flX14, [(417, csX14_isPerson), (407, csX14_isOf_n), (365, csX14_refused), (411, csX14_isDay), (420, csX14_gives), (397, csX14_done)], [], [], [], [], [], 2, 0, 0, (some .int), [], [], 0, 0)
theorem okX14_paper_n (l : Launch) : q_Eok l RX14 cX14_paper EX14_paper_n := ⟨tX14_paper_ok, flX14_ok, List.forall_mem_cons.mpr ⟨(coX14_417 l), List.forall_mem_cons.mpr ⟨(coX14_407_n l), List.forall_mem_cons.mpr ⟨(coX14_365 l), List.forall_mem_cons.mpr ⟨(coX14_411 l), List.forall_mem_cons.mpr ⟨(coX14_420 l), List.forall_mem_cons.mpr ⟨(coX14_397 l), q_nil⟩⟩⟩⟩⟩⟩, q_nil, q_nil, q_nil, q_nil, q_nil, (fun h => absurd h (by decide))⟩
set_option maxRecDepth 100000 in
set_option maxHeartbeats 4000000 in
theorem ctX14_paper_n (l : Launch) : q_CT l yX14_paper (.code yX14_paper cX14_paper 6 (some .int)) 2 0 0 spX14_paper_n := by
  refine q_ct_of EX14_paper_n (by decide +kernel) (okX14_paper_n l) rfl rfl rfl rfl rfl q_nil (fun ci h => by cases h) rfl ?_
  intro a w K h
  obtain ⟨fr, th, tr, wh, fa, ta, sz, ix, so, pl, nu, wd, td, mk, mo, tx, P, D, ea, pa, co, S, Cc, V, ba, p, k, o, f, t, rfl, rfl, hfr, h0, hK⟩ := h
  rcases hfr with rfl | rfl
  all_goals
    refine ⟨Nat.le_of_ble_eq_true rfl, fun C hC => hC _ _ _ _ _ _ ?_⟩
    exact ⟨_, _, _, _, _, _, _, _, _, _, _, _, _, _, _, _, _, _, _, _, _, _, _, _, rfl, rfl, And.intro (fun _ => ⟨_, _, _, _, _, _, _, _, _, _, _, _, _, _, _, _, _, _, _, _, _, _, _, _, rfl, rfl, hK⟩) (fun c => absurd (bI_0.mpr (pn0 h0)) c)⟩
abbrev fdX14_is_n : List (Nat ⊕ (Nat × Nat)) := [.inl 0, .inr (0, 7), .inr (0, 17), .inr (0, 18), .inr (0, 19), .inr (0, 20), .inr (0, 21), .inr (0, 22), .inr (0, 23), .inr (0, 26), .inr (0, 27), .inr (0, 28), .inr (0, 31), .inr (0, 32), .inr (0, 33), .inr (0, 34), .inr (0, 36), .inr (0, 37), .inr (0, 38), .inr (0, 39), .inr (0, 40), .inr (0, 41), .inr (0, 43), .inr (0, 44), .inr (0, 45), .inr (0, 46), .inr (0, 47), .inr (0, 48), .inr (0, 50), .inr (0, 51), .inr (0, 52)]
def spX14_is_n : q_P := fun a w K => ∃ (fr : Value) (th : Int32) (tr : Int32) (wh : Int32) (fa : Int32) (ta : Nat) (sz : Int32) (ix : Int32) (so : Int32) (pl : Int32) (nu : Int32) (wd : Int64) (td : Int32) (mk : Int32) (mo : Int32) (tx : Nat → Int32) (P : PT) (D : DT) (ea : Nat → Int32) (pa : Nat → Int32) (co : Nat → Int32) (S : ST) (Cc : CT) (V : VT) (ba : Nat → Int32) (p k d : Int32), w = (modelN 0 fr (tk 0 6) th tr wh fa ta sz ix so pl nu wd td mk mo tx P D ea pa co S Cc V ba) ∧ a = [.ref 0, .int p, .int k, .int d] ∧ (fr = .null ∨ fr = tk 0 5) ∧ P.2.2.2.2.2.2 = 0 ∧ K (.inl (some (.int (-1)))) (modelN 0 fr (tk 0 6) (0) (1) (-1) fa ta sz ix so pl nu wd td mk mo tx P D ea pa co S Cc V ba)
abbrev csX14_is_n : q_S := (4, 14, 4, 4, 0, 0, fdX14_is_n, spX14_is_n)
def EX14_is_n : q_E := (tX14_is, [], 4, flX14, [(417, csX14_isPerson), (407, csX14_isOf_n), (365, csX14_refused), (411, csX14_isDay), (437, csX14_goodIn), (397, csX14_done)], [], [], [], [], [], 4, 0, 0, (some .int), [], [], 0, 0)
theorem okX14_is_n (l : Launch) : q_Eok l RX14 cX14_is EX14_is_n := ⟨tX14_is_ok, flX14_ok, List.forall_mem_cons.mpr ⟨(coX14_417 l), List.forall_mem_cons.mpr ⟨(coX14_407_n l), List.forall_mem_cons.mpr ⟨(coX14_365 l), List.forall_mem_cons.mpr ⟨(coX14_411 l), List.forall_mem_cons.mpr ⟨(coX14_437 l), List.forall_mem_cons.mpr ⟨(coX14_397 l), q_nil⟩⟩⟩⟩⟩⟩, q_nil, q_nil, q_nil, q_nil, q_nil, (fun h => absurd h (by decide))⟩
set_option maxRecDepth 100000 in
set_option maxHeartbeats 4000000 in
theorem ctX14_is_n (l : Launch) : q_CT l yX14_is (.code yX14_is cX14_is 4 (some .int)) 4 0 0 spX14_is_n := by
  refine q_ct_of EX14_is_n (by decide +kernel) (okX14_is_n l) rfl rfl rfl rfl rfl q_nil (fun ci h => by cases h) rfl ?_
  intro a w K h
  obtain ⟨fr, th, tr, wh, fa, ta, sz, ix, so, pl, nu, wd, td, mk, mo, tx, P, D, ea, pa, co, S, Cc, V, ba, p, k, d, rfl, rfl, hfr, h0, hK⟩ := h
  rcases hfr with rfl | rfl
  all_goals
    refine ⟨Nat.le_of_ble_eq_true rfl, fun C hC => hC _ _ _ _ _ _ ?_⟩
    exact ⟨_, _, _, _, _, _, _, _, _, _, _, _, _, _, _, _, _, _, _, _, _, _, _, _, rfl, rfl, And.intro (fun _ => ⟨_, _, _, _, _, _, _, _, _, _, _, _, _, _, _, _, _, _, _, _, _, _, _, _, rfl, rfl, hK⟩) (fun c => absurd (bI_0.mpr (pn0 h0)) c)⟩
abbrev fdX14_open_n : List (Nat ⊕ (Nat × Nat)) := [.inl 0, .inr (0, 7), .inr (0, 17), .inr (0, 18), .inr (0, 19), .inr (0, 20), .inr (0, 21), .inr (0, 22), .inr (0, 23), .inr (0, 26), .inr (0, 27), .inr (0, 28), .inr (0, 31), .inr (0, 32), .inr (0, 33), .inr (0, 34), .inr (0, 36), .inr (0, 37), .inr (0, 38), .inr (0, 39), .inr (0, 40), .inr (0, 41), .inr (0, 43), .inr (0, 44), .inr (0, 45), .inr (0, 46), .inr (0, 47), .inr (0, 48), .inr (0, 50), .inr (0, 51), .inr (0, 52)]
def spX14_open_n : q_P := fun a w K => ∃ (fr : Value) (th : Int32) (tr : Int32) (wh : Int32) (fa : Int32) (ta : Nat) (sz : Int32) (ix : Int32) (so : Int32) (pl : Int32) (nu : Int32) (wd : Int64) (td : Int32) (mk : Int32) (mo : Int32) (tx : Nat → Int32) (P : PT) (D : DT) (ea : Nat → Int32) (pa : Nat → Int32) (co : Nat → Int32) (S : ST) (Cc : CT) (V : VT) (ba : Nat → Int32) (p r d : Int32), w = (modelN 0 fr (tk 0 6) th tr wh fa ta sz ix so pl nu wd td mk mo tx P D ea pa co S Cc V ba) ∧ a = [.ref 0, .int p, .int r, .int d] ∧ (fr = .null ∨ fr = tk 0 5) ∧ P.2.2.2.2.2.2 = 0 ∧ K (.inl (some (.int (-1)))) (modelN 0 fr (tk 0 6) (0) (1) (-1) fa ta sz ix so pl nu wd td mk mo tx P D ea pa co S Cc V ba)
abbrev csX14_open_n : q_S := (4, 14, 4, 4, 0, 0, fdX14_open_n, spX14_open_n)
def EX14_open_n : q_E := (tX14_open, [], 4, flX14, [(417, csX14_isPerson), (365, csX14_refused), (411, csX14_isDay), (441, csX14_isOpen), (397, csX14_done)], [], [], [], [], [], 4, 0, 0, (some .int), [], [], 0, 0)
theorem okX14_open_n (l : Launch) : q_Eok l RX14 cX14_open EX14_open_n := ⟨tX14_open_ok, flX14_ok, List.forall_mem_cons.mpr ⟨(coX14_417 l), List.forall_mem_cons.mpr ⟨(coX14_365 l), List.forall_mem_cons.mpr ⟨(coX14_411 l), List.forall_mem_cons.mpr ⟨(coX14_441 l), List.forall_mem_cons.mpr ⟨(coX14_397 l), q_nil⟩⟩⟩⟩⟩, q_nil, q_nil, q_nil, q_nil, q_nil, (fun h => absurd h (by decide))⟩
set_option maxRecDepth 100000 in
set_option maxHeartbeats 4000000 in
theorem ctX14_open_n (l : Launch) : q_CT l yX14_open (.code yX14_open cX14_open 4 (some .int)) 4 0 0 spX14_open_n := by
  refine q_ct_of EX14_open_n (by decide +kernel) (okX14_open_n l) rfl rfl rfl rfl rfl q_nil (fun ci h => by cases h) rfl ?_
  intro a w K h
  obtain ⟨fr, th, tr, wh, fa, ta, sz, ix, so, pl, nu, wd, td, mk, mo, tx, P, D, ea, pa, co, S, Cc, V, ba, p, r, d, rfl, rfl, hfr, h0, hK⟩ := h
  rcases hfr with rfl | rfl
  all_goals
    refine ⟨Nat.le_of_ble_eq_true rfl, fun C hC => hC _ _ _ _ _ _ ?_⟩
    exact ⟨_, _, _, _, _, _, _, _, _, _, _, _, _, _, _, _, _, _, _, _, _, _, _, _, rfl, rfl, And.intro (fun _ => ⟨_, _, _, _, _, _, _, _, _, _, _, _, _, _, _, _, _, _, _, _, _, _, _, _, rfl, rfl, hK⟩) (fun c => absurd (bI_0.mpr (pn0 h0)) c)⟩
abbrev fdX14_first_n : List (Nat ⊕ (Nat × Nat)) := [.inl 0, .inr (0, 7), .inr (0, 17), .inr (0, 18), .inr (0, 19), .inr (0, 20), .inr (0, 21), .inr (0, 22), .inr (0, 23), .inr (0, 26), .inr (0, 27), .inr (0, 28), .inr (0, 31), .inr (0, 32), .inr (0, 33), .inr (0, 34), .inr (0, 36), .inr (0, 37), .inr (0, 38), .inr (0, 39), .inr (0, 40), .inr (0, 41), .inr (0, 43), .inr (0, 44), .inr (0, 45), .inr (0, 46), .inr (0, 47), .inr (0, 48), .inr (0, 50), .inr (0, 51), .inr (0, 52)]
def spX14_first_n : q_P := fun a w K => ∃ (fr : Value) (th : Int32) (tr : Int32) (wh : Int32) (fa : Int32) (ta : Nat) (sz : Int32) (ix : Int32) (so : Int32) (pl : Int32) (nu : Int32) (wd : Int64) (td : Int32) (mk : Int32) (mo : Int32) (tx : Nat → Int32) (P : PT) (D : DT) (ea : Nat → Int32) (pa : Nat → Int32) (co : Nat → Int32) (S : ST) (Cc : CT) (V : VT) (ba : Nat → Int32) (p x d : Int32), w = (modelN 0 fr (tk 0 6) th tr wh fa ta sz ix so pl nu wd td mk mo tx P D ea pa co S Cc V ba) ∧ a = [.ref 0, .int p, .int x, .int d] ∧ (fr = .null ∨ fr = tk 0 5) ∧ P.2.2.2.2.2.2 = 0 ∧ K (.inl (some (.int (-1)))) (modelN 0 fr (tk 0 6) (0) (1) (-1) fa ta sz ix so pl nu wd td mk mo tx P D ea pa co S Cc V ba)
abbrev csX14_first_n : q_S := (4, 14, 6, 4, 0, 0, fdX14_first_n, spX14_first_n)
def EX14_first_n : q_E := (tX14_first, [], 4, flX14, [(417, csX14_isPerson), (407, csX14_isOf_n), (365, csX14_refused), (411, csX14_isDay), (456, csX14_goes), (397, csX14_done)], [], [(321, 1000000)], [], [], [], 6, 0, 0, (some .int), [], [], 0, 0)
theorem okX14_first_n (l : Launch) : q_Eok l RX14 cX14_first EX14_first_n := ⟨tX14_first_ok, flX14_ok, List.forall_mem_cons.mpr ⟨(coX14_417 l), List.forall_mem_cons.mpr ⟨(coX14_407_n l), List.forall_mem_cons.mpr ⟨(coX14_365 l), List.forall_mem_cons.mpr ⟨(coX14_411 l), List.forall_mem_cons.mpr ⟨(coX14_456 l), List.forall_mem_cons.mpr ⟨(coX14_397 l), q_nil⟩⟩⟩⟩⟩⟩, q_nil, List.forall_mem_cons.mpr ⟨q_G_i 1658 (by decide +kernel) rfl, q_nil⟩, q_nil, q_nil, q_nil, (fun h => absurd h (by decide))⟩
set_option maxRecDepth 100000 in
set_option maxHeartbeats 4000000 in
theorem ctX14_first_n (l : Launch) : q_CT l yX14_first (.code yX14_first cX14_first 4 (some .int)) 6 0 0 spX14_first_n := by
  refine q_ct_of EX14_first_n (by decide +kernel) (okX14_first_n l) rfl rfl rfl rfl rfl q_nil (fun ci h => by cases h) rfl ?_
  intro a w K h
  obtain ⟨fr, th, tr, wh, fa, ta, sz, ix, so, pl, nu, wd, td, mk, mo, tx, P, D, ea, pa, co, S, Cc, V, ba, p, x, d, rfl, rfl, hfr, h0, hK⟩ := h
  rcases hfr with rfl | rfl
  all_goals
    refine ⟨Nat.le_of_ble_eq_true rfl, fun C hC => hC _ _ _ _ _ _ ?_⟩
    exact ⟨_, _, _, _, _, _, _, _, _, _, _, _, _, _, _, _, _, _, _, _, _, _, _, _, rfl, rfl, And.intro (fun _ => ⟨_, _, _, _, _, _, _, _, _, _, _, _, _, _, _, _, _, _, _, _, _, _, _, _, rfl, rfl, hK⟩) (fun c => absurd (bI_0.mpr (pn0 h0)) c)⟩
abbrev fdX14_cheap_n : List (Nat ⊕ (Nat × Nat)) := [.inl 0, .inr (0, 7), .inr (0, 17), .inr (0, 18), .inr (0, 19), .inr (0, 20), .inr (0, 21), .inr (0, 22), .inr (0, 23), .inr (0, 26), .inr (0, 27), .inr (0, 28), .inr (0, 31), .inr (0, 32), .inr (0, 33), .inr (0, 34), .inr (0, 36), .inr (0, 37), .inr (0, 38), .inr (0, 39), .inr (0, 40), .inr (0, 41), .inr (0, 43), .inr (0, 44), .inr (0, 45), .inr (0, 46), .inr (0, 47), .inr (0, 48), .inr (0, 50), .inr (0, 51), .inr (0, 52)]
def spX14_cheap_n : q_P := fun a w K => ∃ (fr : Value) (th : Int32) (tr : Int32) (wh : Int32) (fa : Int32) (ta : Nat) (sz : Int32) (ix : Int32) (so : Int32) (pl : Int32) (nu : Int32) (wd : Int64) (td : Int32) (mk : Int32) (mo : Int32) (tx : Nat → Int32) (P : PT) (D : DT) (ea : Nat → Int32) (pa : Nat → Int32) (co : Nat → Int32) (S : ST) (Cc : CT) (V : VT) (ba : Nat → Int32) (p x d : Int32), w = (modelN 0 fr (tk 0 6) th tr wh fa ta sz ix so pl nu wd td mk mo tx P D ea pa co S Cc V ba) ∧ a = [.ref 0, .int p, .int x, .int d] ∧ (fr = .null ∨ fr = tk 0 5) ∧ P.2.2.2.2.2.2 = 0 ∧ K (.inl (some (.int (-1)))) (modelN 0 fr (tk 0 6) (0) (1) (-1) fa ta sz ix so pl nu wd td mk mo tx P D ea pa co S Cc V ba)
abbrev csX14_cheap_n : q_S := (4, 14, 5, 4, 0, 0, fdX14_cheap_n, spX14_cheap_n)
def EX14_cheap_n : q_E := (tX14_cheap, [], 4, flX14, [(417, csX14_isPerson), (407, csX14_isOf_n), (365, csX14_refused), (411, csX14_isDay), (459, csX14_pays), (397, csX14_done)], [], [(321, 1000000)], [], [], [], 5, 0, 0, (some .int), [], [], 0, 0)
theorem okX14_cheap_n (l : Launch) : q_Eok l RX14 cX14_cheap EX14_cheap_n := ⟨tX14_cheap_ok, flX14_ok, List.forall_mem_cons.mpr ⟨(coX14_417 l), List.forall_mem_cons.mpr ⟨(coX14_407_n l), List.forall_mem_cons.mpr ⟨(coX14_365 l), List.forall_mem_cons.mpr ⟨(coX14_411 l), List.forall_mem_cons.mpr ⟨(coX14_459 l), List.forall_mem_cons.mpr ⟨(coX14_397 l), q_nil⟩⟩⟩⟩⟩⟩, q_nil, List.forall_mem_cons.mpr ⟨q_G_i 1658 (by decide +kernel) rfl, q_nil⟩, q_nil, q_nil, q_nil, (fun h => absurd h (by decide))⟩
set_option maxRecDepth 100000 in
set_option maxHeartbeats 4000000 in
theorem ctX14_cheap_n (l : Launch) : q_CT l yX14_cheap (.code yX14_cheap cX14_cheap 4 (some .int)) 5 0 0 spX14_cheap_n := by
  refine q_ct_of EX14_cheap_n (by decide +kernel) (okX14_cheap_n l) rfl rfl rfl rfl rfl q_nil (fun ci h => by cases h) rfl ?_
  intro a w K h
  obtain ⟨fr, th, tr, wh, fa, ta, sz, ix, so, pl, nu, wd, td, mk, mo, tx, P, D, ea, pa, co, S, Cc, V, ba, p, x, d, rfl, rfl, hfr, h0, hK⟩ := h
  rcases hfr with rfl | rfl
  all_goals
    refine ⟨Nat.le_of_ble_eq_true rfl, fun C hC => hC _ _ _ _ _ _ ?_⟩
    exact ⟨_, _, _, _, _, _, _, _, _, _, _, _, _, _, _, _, _, _, _, _, _, _, _, _, rfl, rfl, And.intro (fun _ => ⟨_, _, _, _, _, _, _, _, _, _, _, _, _, _, _, _, _, _, _, _, _, _, _, _, rfl, rfl, hK⟩) (fun c => absurd (bI_0.mpr (pn0 h0)) c)⟩
abbrev fdX14_reach_n : List (Nat ⊕ (Nat × Nat)) := [.inl 0, .inr (0, 7), .inr (0, 17), .inr (0, 18), .inr (0, 19), .inr (0, 20), .inr (0, 21), .inr (0, 22), .inr (0, 23), .inr (0, 26), .inr (0, 27), .inr (0, 28), .inr (0, 31), .inr (0, 32), .inr (0, 33), .inr (0, 34), .inr (0, 36), .inr (0, 37), .inr (0, 38), .inr (0, 39), .inr (0, 40), .inr (0, 41), .inr (0, 43), .inr (0, 44), .inr (0, 45), .inr (0, 46), .inr (0, 47), .inr (0, 48), .inr (0, 50), .inr (0, 51), .inr (0, 52)]
def spX14_reach_n : q_P := fun a w K => ∃ (fr : Value) (th : Int32) (tr : Int32) (wh : Int32) (fa : Int32) (ta : Nat) (sz : Int32) (ix : Int32) (so : Int32) (pl : Int32) (nu : Int32) (wd : Int64) (td : Int32) (mk : Int32) (mo : Int32) (tx : Nat → Int32) (P : PT) (D : DT) (ea : Nat → Int32) (pa : Nat → Int32) (co : Nat → Int32) (S : ST) (Cc : CT) (V : VT) (ba : Nat → Int32) (p d : Int32), w = (modelN 0 fr (tk 0 6) th tr wh fa ta sz ix so pl nu wd td mk mo tx P D ea pa co S Cc V ba) ∧ a = [.ref 0, .int p, .int d] ∧ (fr = .null ∨ fr = tk 0 5) ∧ P.2.2.2.2.2.2 = 0 ∧ K (.inl (some (.int (-1)))) (modelN 0 fr (tk 0 6) (0) (1) (-1) fa ta sz ix so pl nu wd td mk mo tx P D ea pa co S Cc V ba)
abbrev csX14_reach_n : q_S := (3, 14, 6, 3, 0, 0, fdX14_reach_n, spX14_reach_n)
def EX14_reach_n : q_E := (tX14_reach, [], 3, flX14, [(417, csX14_isPerson), (365, csX14_refused), (411, csX14_isDay), (462, csX14_reached), (397, csX14_done)], [], [], [], [], [], 6, 0, 0, (some .int), [], [], 0, 0)
theorem okX14_reach_n (l : Launch) : q_Eok l RX14 cX14_reach EX14_reach_n := ⟨tX14_reach_ok, flX14_ok, List.forall_mem_cons.mpr ⟨(coX14_417 l), List.forall_mem_cons.mpr ⟨(coX14_365 l), List.forall_mem_cons.mpr ⟨(coX14_411 l), List.forall_mem_cons.mpr ⟨(coX14_462 l), List.forall_mem_cons.mpr ⟨(coX14_397 l), q_nil⟩⟩⟩⟩⟩, q_nil, q_nil, q_nil, q_nil, q_nil, (fun h => absurd h (by decide))⟩
set_option maxRecDepth 100000 in
set_option maxHeartbeats 4000000 in
theorem ctX14_reach_n (l : Launch) : q_CT l yX14_reach (.code yX14_reach cX14_reach 3 (some .int)) 6 0 0 spX14_reach_n := by
  refine q_ct_of EX14_reach_n (by decide +kernel) (okX14_reach_n l) rfl rfl rfl rfl rfl q_nil (fun ci h => by cases h) rfl ?_
  intro a w K h
  obtain ⟨fr, th, tr, wh, fa, ta, sz, ix, so, pl, nu, wd, td, mk, mo, tx, P, D, ea, pa, co, S, Cc, V, ba, p, d, rfl, rfl, hfr, h0, hK⟩ := h
  rcases hfr with rfl | rfl
  all_goals
    refine ⟨Nat.le_of_ble_eq_true rfl, fun C hC => hC _ _ _ _ _ _ ?_⟩
    exact ⟨_, _, _, _, _, _, _, _, _, _, _, _, _, _, _, _, _, _, _, _, _, _, _, _, rfl, rfl, And.intro (fun c => absurd (bI_0.mpr (pn0 h0)) c) (fun _ => ⟨_, _, _, _, _, _, _, _, _, _, _, _, _, _, _, _, _, _, _, _, _, _, _, _, rfl, rfl, hK⟩)⟩
abbrev fdX14_opener_n : List (Nat ⊕ (Nat × Nat)) := [.inl 0, .inr (0, 7), .inr (0, 17), .inr (0, 18), .inr (0, 19), .inr (0, 20), .inr (0, 21), .inr (0, 22), .inr (0, 23), .inr (0, 26), .inr (0, 27), .inr (0, 28), .inr (0, 31), .inr (0, 32), .inr (0, 33), .inr (0, 34), .inr (0, 36), .inr (0, 37), .inr (0, 38), .inr (0, 39), .inr (0, 40), .inr (0, 41), .inr (0, 43), .inr (0, 44), .inr (0, 45), .inr (0, 46), .inr (0, 47), .inr (0, 48), .inr (0, 50), .inr (0, 51), .inr (0, 52)]
def spX14_opener_n : q_P := fun a w K => ∃ (fr : Value) (th : Int32) (tr : Int32) (wh : Int32) (fa : Int32) (ta : Nat) (sz : Int32) (ix : Int32) (so : Int32) (pl : Int32) (nu : Int32) (wd : Int64) (td : Int32) (mk : Int32) (mo : Int32) (tx : Nat → Int32) (P : PT) (D : DT) (ea : Nat → Int32) (pa : Nat → Int32) (co : Nat → Int32) (S : ST) (Cc : CT) (V : VT) (ba : Nat → Int32) (p d : Int32), w = (modelN 0 fr (tk 0 6) th tr wh fa ta sz ix so pl nu wd td mk mo tx P D ea pa co S Cc V ba) ∧ a = [.ref 0, .int p, .int d] ∧ (fr = .null ∨ fr = tk 0 5) ∧ P.2.2.2.2.2.2 = 0 ∧ K (.inl (some (.int (-1)))) (modelN 0 fr (tk 0 6) (0) (1) (-1) fa ta sz ix so pl nu wd td mk mo tx P D ea pa co S Cc V ba)
abbrev csX14_opener_n : q_S := (3, 14, 6, 8, 0, 0, fdX14_opener_n, spX14_opener_n)
def EX14_opener_n : q_E := (tX14_opener, [], 8, flX14, [(417, csX14_isPerson), (365, csX14_refused), (411, csX14_isDay), (462, csX14_reached), (397, csX14_done)], [], [], [], [], [], 6, 0, 0, (some .int), [], [], 0, 0)
theorem okX14_opener_n (l : Launch) : q_Eok l RX14 cX14_opener EX14_opener_n := ⟨tX14_opener_ok, flX14_ok, List.forall_mem_cons.mpr ⟨(coX14_417 l), List.forall_mem_cons.mpr ⟨(coX14_365 l), List.forall_mem_cons.mpr ⟨(coX14_411 l), List.forall_mem_cons.mpr ⟨(coX14_462 l), List.forall_mem_cons.mpr ⟨(coX14_397 l), q_nil⟩⟩⟩⟩⟩, q_nil, q_nil, q_nil, q_nil, q_nil, (fun h => absurd h (by decide))⟩
set_option maxRecDepth 100000 in
set_option maxHeartbeats 4000000 in
theorem ctX14_opener_n (l : Launch) : q_CT l yX14_opener (.code yX14_opener cX14_opener 8 (some .int)) 6 0 0 spX14_opener_n := by
  refine q_ct_of EX14_opener_n (by decide +kernel) (okX14_opener_n l) rfl rfl rfl rfl rfl q_nil (fun ci h => by cases h) rfl ?_
  intro a w K h
  obtain ⟨fr, th, tr, wh, fa, ta, sz, ix, so, pl, nu, wd, td, mk, mo, tx, P, D, ea, pa, co, S, Cc, V, ba, p, d, rfl, rfl, hfr, h0, hK⟩ := h
  rcases hfr with rfl | rfl
  all_goals
    refine ⟨Nat.le_of_ble_eq_true rfl, fun C hC => hC _ _ _ _ _ _ ?_⟩
    exact ⟨_, _, _, _, _, _, _, _, _, _, _, _, _, _, _, _, _, _, _, _, _, _, _, _, rfl, rfl, And.intro (fun c => absurd (bI_0.mpr (pn0 h0)) c) (fun _ => ⟨_, _, _, _, _, _, _, _, _, _, _, _, _, _, _, _, _, _, _, _, _, _, _, _, rfl, rfl, hK⟩)⟩
abbrev fdX14_child_n : List (Nat ⊕ (Nat × Nat)) := [.inl 0, .inr (0, 7), .inr (0, 17), .inr (0, 18), .inr (0, 19), .inr (0, 20), .inr (0, 21), .inr (0, 22), .inr (0, 23), .inr (0, 26), .inr (0, 27), .inr (0, 28), .inr (0, 31), .inr (0, 32), .inr (0, 33), .inr (0, 34), .inr (0, 36), .inr (0, 37), .inr (0, 38), .inr (0, 39), .inr (0, 40), .inr (0, 41), .inr (0, 43), .inr (0, 44), .inr (0, 45), .inr (0, 46), .inr (0, 47), .inr (0, 48), .inr (0, 50), .inr (0, 51), .inr (0, 52)]
def spX14_child_n : q_P := fun a w K => ∃ (fr : Value) (th : Int32) (tr : Int32) (wh : Int32) (fa : Int32) (ta : Nat) (sz : Int32) (ix : Int32) (so : Int32) (pl : Int32) (nu : Int32) (wd : Int64) (td : Int32) (mk : Int32) (mo : Int32) (tx : Nat → Int32) (P : PT) (D : DT) (ea : Nat → Int32) (pa : Nat → Int32) (co : Nat → Int32) (S : ST) (Cc : CT) (V : VT) (ba : Nat → Int32) (p : Int32), w = (modelN 0 fr (tk 0 6) th tr wh fa ta sz ix so pl nu wd td mk mo tx P D ea pa co S Cc V ba) ∧ a = [.ref 0, .int p] ∧ (fr = .null ∨ fr = tk 0 5) ∧ P.2.2.2.2.2.2 = 0 ∧ K (.inl (some (.int (-1)))) (modelN 0 fr (tk 0 6) (0) (1) (-1) fa ta sz ix so pl nu wd td mk mo tx P D ea pa co S Cc V ba)
abbrev csX14_child_n : q_S := (2, 14, 3, 7, 0, 0, fdX14_child_n, spX14_child_n)
def EX14_child_n : q_E := (tX14_child, [], 7, flX14, [(417, csX14_isPerson), (365, csX14_refused), (414, csX14_comes), (483, csX14_giftDay), (474, csX14_hasFrom), (420, csX14_gives), (397, csX14_done)], [], [(321, 1000000)], [], [], [], 3, 0, 0, (some .int), [], [], 0, 0)
theorem okX14_child_n (l : Launch) : q_Eok l RX14 cX14_child EX14_child_n := ⟨tX14_child_ok, flX14_ok, List.forall_mem_cons.mpr ⟨(coX14_417 l), List.forall_mem_cons.mpr ⟨(coX14_365 l), List.forall_mem_cons.mpr ⟨(coX14_414 l), List.forall_mem_cons.mpr ⟨(coX14_483 l), List.forall_mem_cons.mpr ⟨(coX14_474 l), List.forall_mem_cons.mpr ⟨(coX14_420 l), List.forall_mem_cons.mpr ⟨(coX14_397 l), q_nil⟩⟩⟩⟩⟩⟩⟩, q_nil, List.forall_mem_cons.mpr ⟨q_G_i 1658 (by decide +kernel) rfl, q_nil⟩, q_nil, q_nil, q_nil, (fun h => absurd h (by decide))⟩
set_option maxRecDepth 100000 in
set_option maxHeartbeats 4000000 in
theorem ctX14_child_n (l : Launch) : q_CT l yX14_child (.code yX14_child cX14_child 7 (some .int)) 3 0 0 spX14_child_n := by
  refine q_ct_of EX14_child_n (by decide +kernel) (okX14_child_n l) rfl rfl rfl rfl rfl q_nil (fun ci h => by cases h) rfl ?_
  intro a w K h
  obtain ⟨fr, th, tr, wh, fa, ta, sz, ix, so, pl, nu, wd, td, mk, mo, tx, P, D, ea, pa, co, S, Cc, V, ba, p, rfl, rfl, hfr, h0, hK⟩ := h
  rcases hfr with rfl | rfl
  all_goals
    refine ⟨Nat.le_of_ble_eq_true rfl, fun C hC => hC _ _ _ _ _ _ ?_⟩
    exact ⟨_, _, _, _, _, _, _, _, _, _, _, _, _, _, _, _, _, _, _, _, _, _, _, _, rfl, rfl, And.intro (fun c => absurd (bI_0.mpr (pn0 h0)) c) (fun _ => ⟨_, _, _, _, _, _, _, _, _, _, _, _, _, _, _, _, _, _, _, _, _, _, _, _, rfl, rfl, hK⟩)⟩
abbrev fdX14_binds_n : List (Nat ⊕ (Nat × Nat)) := [.inl 0, .inr (0, 7), .inr (0, 17), .inr (0, 18), .inr (0, 19), .inr (0, 20), .inr (0, 21), .inr (0, 22), .inr (0, 23), .inr (0, 26), .inr (0, 27), .inr (0, 28), .inr (0, 31), .inr (0, 32), .inr (0, 33), .inr (0, 34), .inr (0, 36), .inr (0, 37), .inr (0, 38), .inr (0, 39), .inr (0, 40), .inr (0, 41), .inr (0, 43), .inr (0, 44), .inr (0, 45), .inr (0, 46), .inr (0, 47), .inr (0, 48), .inr (0, 50), .inr (0, 51), .inr (0, 52)]
def spX14_binds_n : q_P := fun a w K => ∃ (fr : Value) (th : Int32) (tr : Int32) (wh : Int32) (fa : Int32) (ta : Nat) (sz : Int32) (ix : Int32) (so : Int32) (pl : Int32) (nu : Int32) (wd : Int64) (td : Int32) (mk : Int32) (mo : Int32) (tx : Nat → Int32) (P : PT) (D : DT) (ea : Nat → Int32) (pa : Nat → Int32) (co : Nat → Int32) (S : ST) (Cc : CT) (V : VT) (ba : Nat → Int32) (p mt ld d : Int32), w = (modelN 0 fr (tk 0 6) th tr wh fa ta sz ix so pl nu wd td mk mo tx P D ea pa co S Cc V ba) ∧ a = [.ref 0, .int p, .int mt, .int ld, .int d] ∧ (fr = .null ∨ fr = tk 0 5) ∧ P.2.2.2.2.2.2 = 0 ∧ K (.inl (some (.int (-1)))) (modelN 0 fr (tk 0 6) (0) (1) (-1) fa ta sz ix so pl nu wd td mk mo tx P D ea pa co S Cc V ba)
abbrev csX14_binds_n : q_S := (5, 14, 3, 5, 0, 0, fdX14_binds_n, spX14_binds_n)
def EX14_binds_n : q_E := (tX14_binds, [], 5, flX14, [(417, csX14_isPerson), (407, csX14_isOf_n), (365, csX14_refused), (207, csX14_in), (411, csX14_isDay), (486, csX14_binding), (397, csX14_done)], [], [], [], [], [], 3, 0, 0, (some .int), [], [], 0, 0)
theorem okX14_binds_n (l : Launch) : q_Eok l RX14 cX14_binds EX14_binds_n := ⟨tX14_binds_ok, flX14_ok, List.forall_mem_cons.mpr ⟨(coX14_417 l), List.forall_mem_cons.mpr ⟨(coX14_407_n l), List.forall_mem_cons.mpr ⟨(coX14_365 l), List.forall_mem_cons.mpr ⟨(coX14_207 l), List.forall_mem_cons.mpr ⟨(coX14_411 l), List.forall_mem_cons.mpr ⟨(coX14_486 l), List.forall_mem_cons.mpr ⟨(coX14_397 l), q_nil⟩⟩⟩⟩⟩⟩⟩, q_nil, q_nil, q_nil, q_nil, q_nil, (fun h => absurd h (by decide))⟩
set_option maxRecDepth 100000 in
set_option maxHeartbeats 4000000 in
theorem ctX14_binds_n (l : Launch) : q_CT l yX14_binds (.code yX14_binds cX14_binds 5 (some .int)) 3 0 0 spX14_binds_n := by
  refine q_ct_of EX14_binds_n (by decide +kernel) (okX14_binds_n l) rfl rfl rfl rfl rfl q_nil (fun ci h => by cases h) rfl ?_
  intro a w K h
  obtain ⟨fr, th, tr, wh, fa, ta, sz, ix, so, pl, nu, wd, td, mk, mo, tx, P, D, ea, pa, co, S, Cc, V, ba, p, mt, ld, d, rfl, rfl, hfr, h0, hK⟩ := h
  rcases hfr with rfl | rfl
  all_goals
    refine ⟨Nat.le_of_ble_eq_true rfl, fun C hC => hC _ _ _ _ _ _ ?_⟩
    exact ⟨_, _, _, _, _, _, _, _, _, _, _, _, _, _, _, _, _, _, _, _, _, _, _, _, rfl, rfl, And.intro (fun _ => ⟨_, _, _, _, _, _, _, _, _, _, _, _, _, _, _, _, _, _, _, _, _, _, _, _, rfl, rfl, hK⟩) (fun c => absurd (bI_0.mpr (pn0 h0)) c)⟩
abbrev fdX14_unlike_n : List (Nat ⊕ (Nat × Nat)) := [.inl 0, .inr (0, 7), .inr (0, 17), .inr (0, 18), .inr (0, 19), .inr (0, 20), .inr (0, 21), .inr (0, 22), .inr (0, 23), .inr (0, 26), .inr (0, 27), .inr (0, 28), .inr (0, 31), .inr (0, 32), .inr (0, 33), .inr (0, 34), .inr (0, 36), .inr (0, 37), .inr (0, 38), .inr (0, 39), .inr (0, 40), .inr (0, 41), .inr (0, 43), .inr (0, 44), .inr (0, 45), .inr (0, 46), .inr (0, 47), .inr (0, 48), .inr (0, 50), .inr (0, 51), .inr (0, 52)]
def spX14_unlike_n : q_P := fun a w K => ∃ (fr : Value) (th : Int32) (tr : Int32) (wh : Int32) (fa : Int32) (ta : Nat) (sz : Int32) (ix : Int32) (so : Int32) (pl : Int32) (nu : Int32) (wd : Int64) (td : Int32) (mk : Int32) (mo : Int32) (tx : Nat → Int32) (P : PT) (D : DT) (ea : Nat → Int32) (pa : Nat → Int32) (co : Nat → Int32) (S : ST) (Cc : CT) (V : VT) (ba : Nat → Int32) (p mt d : Int32), w = (modelN 0 fr (tk 0 6) th tr wh fa ta sz ix so pl nu wd td mk mo tx P D ea pa co S Cc V ba) ∧ a = [.ref 0, .int p, .int mt, .int d] ∧ (fr = .null ∨ fr = tk 0 5) ∧ P.2.2.2.2.2.2 = 0 ∧ K (.inl (some (.int (-1)))) (modelN 0 fr (tk 0 6) (0) (1) (-1) fa ta sz ix so pl nu wd td mk mo tx P D ea pa co S Cc V ba)
abbrev csX14_unlike_n : q_S := (4, 14, 3, 9, 0, 0, fdX14_unlike_n, spX14_unlike_n)
def EX14_unlike_n : q_E := (tX14_unlike, [], 9, flX14, [(417, csX14_isPerson), (365, csX14_refused), (207, csX14_in), (411, csX14_isDay), (486, csX14_binding), (397, csX14_done)], [], [], [], [], [], 3, 0, 0, (some .int), [], [], 0, 0)
theorem okX14_unlike_n (l : Launch) : q_Eok l RX14 cX14_unlike EX14_unlike_n := ⟨tX14_unlike_ok, flX14_ok, List.forall_mem_cons.mpr ⟨(coX14_417 l), List.forall_mem_cons.mpr ⟨(coX14_365 l), List.forall_mem_cons.mpr ⟨(coX14_207 l), List.forall_mem_cons.mpr ⟨(coX14_411 l), List.forall_mem_cons.mpr ⟨(coX14_486 l), List.forall_mem_cons.mpr ⟨(coX14_397 l), q_nil⟩⟩⟩⟩⟩⟩, q_nil, q_nil, q_nil, q_nil, q_nil, (fun h => absurd h (by decide))⟩
set_option maxRecDepth 100000 in
set_option maxHeartbeats 4000000 in
theorem ctX14_unlike_n (l : Launch) : q_CT l yX14_unlike (.code yX14_unlike cX14_unlike 9 (some .int)) 3 0 0 spX14_unlike_n := by
  refine q_ct_of EX14_unlike_n (by decide +kernel) (okX14_unlike_n l) rfl rfl rfl rfl rfl q_nil (fun ci h => by cases h) rfl ?_
  intro a w K h
  obtain ⟨fr, th, tr, wh, fa, ta, sz, ix, so, pl, nu, wd, td, mk, mo, tx, P, D, ea, pa, co, S, Cc, V, ba, p, mt, d, rfl, rfl, hfr, h0, hK⟩ := h
  rcases hfr with rfl | rfl
  all_goals
    refine ⟨Nat.le_of_ble_eq_true rfl, fun C hC => hC _ _ _ _ _ _ ?_⟩
    exact ⟨_, _, _, _, _, _, _, _, _, _, _, _, _, _, _, _, _, _, _, _, _, _, _, _, rfl, rfl, And.intro (fun c => absurd (bI_0.mpr (pn0 h0)) c) (fun _ => ⟨_, _, _, _, _, _, _, _, _, _, _, _, _, _, _, _, _, _, _, _, _, _, _, _, rfl, rfl, hK⟩)⟩
abbrev fdX14_contract_n : List (Nat ⊕ (Nat × Nat)) := [.inl 0, .inr (0, 7), .inr (0, 17), .inr (0, 18), .inr (0, 19), .inr (0, 20), .inr (0, 21), .inr (0, 22), .inr (0, 23), .inr (0, 26), .inr (0, 27), .inr (0, 28), .inr (0, 31), .inr (0, 32), .inr (0, 33), .inr (0, 34), .inr (0, 36), .inr (0, 37), .inr (0, 38), .inr (0, 39), .inr (0, 40), .inr (0, 41), .inr (0, 43), .inr (0, 44), .inr (0, 45), .inr (0, 46), .inr (0, 47), .inr (0, 48), .inr (0, 50), .inr (0, 51), .inr (0, 52)]
def spX14_contract_n : q_P := fun a w K => ∃ (fr : Value) (th : Int32) (tr : Int32) (wh : Int32) (fa : Int32) (ta : Nat) (sz : Int32) (ix : Int32) (so : Int32) (pl : Int32) (nu : Int32) (wd : Int64) (td : Int32) (mk : Int32) (mo : Int32) (tx : Nat → Int32) (P : PT) (D : DT) (ea : Nat → Int32) (pa : Nat → Int32) (co : Nat → Int32) (S : ST) (Cc : CT) (V : VT) (ba : Nat → Int32) (p x : Int32), w = (modelN 0 fr (tk 0 6) th tr wh fa ta sz ix so pl nu wd td mk mo tx P D ea pa co S Cc V ba) ∧ a = [.ref 0, .int p, .int x] ∧ (fr = .null ∨ fr = tk 0 5) ∧ P.2.2.2.2.2.2 = 0 ∧ K (.inl (some (.int (-1)))) (modelN 0 fr (tk 0 6) (0) (1) (-1) fa ta sz ix so pl nu wd td mk mo tx P D ea pa co S Cc V ba)
abbrev csX14_contract_n : q_S := (3, 14, 1, 3, 0, 0, fdX14_contract_n, spX14_contract_n)
def EX14_contract_n : q_E := (tX14_contract, [], 3, flX14, [(417, csX14_isPerson), (365, csX14_refused), (207, csX14_in), (397, csX14_done)], [], [], [], [], [], 1, 0, 0, (some .int), [], [], 0, 0)
theorem okX14_contract_n (l : Launch) : q_Eok l RX14 cX14_contract EX14_contract_n := ⟨tX14_contract_ok, flX14_ok, List.forall_mem_cons.mpr ⟨(coX14_417 l), List.forall_mem_cons.mpr ⟨(coX14_365 l), List.forall_mem_cons.mpr ⟨(coX14_207 l), List.forall_mem_cons.mpr ⟨(coX14_397 l), q_nil⟩⟩⟩⟩, q_nil, q_nil, q_nil, q_nil, q_nil, (fun h => absurd h (by decide))⟩
set_option maxRecDepth 100000 in
set_option maxHeartbeats 4000000 in
theorem ctX14_contract_n (l : Launch) : q_CT l yX14_contract (.code yX14_contract cX14_contract 3 (some .int)) 1 0 0 spX14_contract_n := by
  refine q_ct_of EX14_contract_n (by decide +kernel) (okX14_contract_n l) rfl rfl rfl rfl rfl q_nil (fun ci h => by cases h) rfl ?_
  intro a w K h
  obtain ⟨fr, th, tr, wh, fa, ta, sz, ix, so, pl, nu, wd, td, mk, mo, tx, P, D, ea, pa, co, S, Cc, V, ba, p, x, rfl, rfl, hfr, h0, hK⟩ := h
  rcases hfr with rfl | rfl
  all_goals
    refine ⟨Nat.le_of_ble_eq_true rfl, fun C hC => hC _ _ _ _ _ _ ?_⟩
    exact ⟨_, _, _, _, _, _, _, _, _, _, _, _, _, _, _, _, _, _, _, _, _, _, _, _, rfl, rfl, And.intro (fun c => absurd (bI_0.mpr (pn0 h0)) c) (fun _ => ⟨_, _, _, _, _, _, _, _, _, _, _, _, _, _, _, _, _, _, _, _, _, _, _, _, rfl, rfl, hK⟩)⟩
abbrev fdX14_move_n : List (Nat ⊕ (Nat × Nat)) := [.inl 0, .inr (0, 7), .inr (0, 17), .inr (0, 18), .inr (0, 19), .inr (0, 20), .inr (0, 21), .inr (0, 22), .inr (0, 23), .inr (0, 26), .inr (0, 27), .inr (0, 28), .inr (0, 31), .inr (0, 32), .inr (0, 33), .inr (0, 34), .inr (0, 36), .inr (0, 37), .inr (0, 38), .inr (0, 39), .inr (0, 40), .inr (0, 41), .inr (0, 43), .inr (0, 44), .inr (0, 45), .inr (0, 46), .inr (0, 47), .inr (0, 48), .inr (0, 50), .inr (0, 51), .inr (0, 52)]
def spX14_move_n : q_P := fun a w K => ∃ (fr : Value) (th : Int32) (tr : Int32) (wh : Int32) (fa : Int32) (ta : Nat) (sz : Int32) (ix : Int32) (so : Int32) (pl : Int32) (nu : Int32) (wd : Int64) (td : Int32) (mk : Int32) (mo : Int32) (tx : Nat → Int32) (P : PT) (D : DT) (ea : Nat → Int32) (pa : Nat → Int32) (co : Nat → Int32) (S : ST) (Cc : CT) (V : VT) (ba : Nat → Int32) (p x : Int32), w = (modelN 0 fr (tk 0 6) th tr wh fa ta sz ix so pl nu wd td mk mo tx P D ea pa co S Cc V ba) ∧ a = [.ref 0, .int p, .int x] ∧ (fr = .null ∨ fr = tk 0 5) ∧ P.2.2.2.2.2.2 = 0 ∧ K (.inl (some (.int 0))) (modelN 0 fr (tk 0 6) (0) (1) (-1) fa ta sz ix so pl nu wd td mk mo tx P D ea pa co S Cc V ba)
abbrev csX14_move_n : q_S := (3, 14, 1, 3, 0, 0, fdX14_move_n, spX14_move_n)
def EX14_move_n : q_E := (tX14_move, [], 3, flX14, [(417, csX14_isPerson), (407, csX14_isOf_n), (424, csX14_denied), (427, csX14_granted)], [], [], [], [], [], 1, 0, 0, (some .boolean), [], [], 0, 0)
theorem okX14_move_n (l : Launch) : q_Eok l RX14 cX14_move EX14_move_n := ⟨tX14_move_ok, flX14_ok, List.forall_mem_cons.mpr ⟨(coX14_417 l), List.forall_mem_cons.mpr ⟨(coX14_407_n l), List.forall_mem_cons.mpr ⟨(coX14_424 l), List.forall_mem_cons.mpr ⟨(coX14_427 l), q_nil⟩⟩⟩⟩, q_nil, q_nil, q_nil, q_nil, q_nil, (fun h => absurd h (by decide))⟩
set_option maxRecDepth 100000 in
set_option maxHeartbeats 4000000 in
theorem ctX14_move_n (l : Launch) : q_CT l yX14_move (.code yX14_move cX14_move 3 (some .boolean)) 1 0 0 spX14_move_n := by
  refine q_ct_of EX14_move_n (by decide +kernel) (okX14_move_n l) rfl rfl rfl rfl rfl q_nil (fun ci h => by cases h) rfl ?_
  intro a w K h
  obtain ⟨fr, th, tr, wh, fa, ta, sz, ix, so, pl, nu, wd, td, mk, mo, tx, P, D, ea, pa, co, S, Cc, V, ba, p, x, rfl, rfl, hfr, h0, hK⟩ := h
  rcases hfr with rfl | rfl
  all_goals
    refine ⟨Nat.le_of_ble_eq_true rfl, fun C hC => hC _ _ _ _ _ _ ?_⟩
    exact ⟨_, _, _, _, _, _, _, _, _, _, _, _, _, _, _, _, _, _, _, _, _, _, _, _, rfl, rfl, And.intro (fun _ => ⟨_, _, _, _, _, _, _, _, _, _, _, _, _, _, _, _, _, _, _, _, _, _, _, _, rfl, rfl, rfl, hK⟩) (fun c => absurd (bI_0.mpr (pn0 h0)) c)⟩
abbrev fdX14_held_n : List (Nat ⊕ (Nat × Nat)) := [.inl 0, .inr (0, 7), .inr (0, 17), .inr (0, 18), .inr (0, 19), .inr (0, 20), .inr (0, 21), .inr (0, 22), .inr (0, 23), .inr (0, 26), .inr (0, 27), .inr (0, 28), .inr (0, 31), .inr (0, 32), .inr (0, 33), .inr (0, 34), .inr (0, 36), .inr (0, 37), .inr (0, 38), .inr (0, 39), .inr (0, 40), .inr (0, 41), .inr (0, 43), .inr (0, 44), .inr (0, 45), .inr (0, 46), .inr (0, 47), .inr (0, 48), .inr (0, 50), .inr (0, 51), .inr (0, 52)]
def spX14_held_n : q_P := fun a w K => ∃ (fr : Value) (th : Int32) (tr : Int32) (wh : Int32) (fa : Int32) (ta : Nat) (sz : Int32) (ix : Int32) (so : Int32) (pl : Int32) (nu : Int32) (wd : Int64) (td : Int32) (mk : Int32) (mo : Int32) (tx : Nat → Int32) (P : PT) (D : DT) (ea : Nat → Int32) (pa : Nat → Int32) (co : Nat → Int32) (S : ST) (Cc : CT) (V : VT) (ba : Nat → Int32) (p i x : Int32), w = (modelN 0 fr (tk 0 6) th tr wh fa ta sz ix so pl nu wd td mk mo tx P D ea pa co S Cc V ba) ∧ a = [.ref 0, .int p, .int i, .int x] ∧ (fr = .null ∨ fr = tk 0 5) ∧ P.2.2.2.2.2.2 = 0 ∧ K (.inl (some (.int (-1)))) (modelN 0 fr (tk 0 6) (0) tr wh fa ta sz ix so pl nu wd td mk mo tx P D ea pa co S Cc V ba)
abbrev csX14_held_n : q_S := (4, 14, 1, 5, 0, 0, fdX14_held_n, spX14_held_n)
def EX14_held_n : q_E := (tX14_held, [], 5, flX14, [(417, csX14_isPerson)], [], [], [], [], [], 1, 0, 0, (some .int), [], [], 0, 0)
theorem okX14_held_n (l : Launch) : q_Eok l RX14 cX14_held EX14_held_n := ⟨tX14_held_ok, flX14_ok, List.forall_mem_cons.mpr ⟨(coX14_417 l), q_nil⟩, q_nil, q_nil, q_nil, q_nil, q_nil, (fun h => absurd h (by decide))⟩
set_option maxRecDepth 100000 in
set_option maxHeartbeats 4000000 in
theorem ctX14_held_n (l : Launch) : q_CT l yX14_held (.code yX14_held cX14_held 5 (some .int)) 1 0 0 spX14_held_n := by
  refine q_ct_of EX14_held_n (by decide +kernel) (okX14_held_n l) rfl rfl rfl rfl rfl q_nil (fun ci h => by cases h) rfl ?_
  intro a w K h
  obtain ⟨fr, th, tr, wh, fa, ta, sz, ix, so, pl, nu, wd, td, mk, mo, tx, P, D, ea, pa, co, S, Cc, V, ba, p, i, x, rfl, rfl, hfr, h0, hK⟩ := h
  rcases hfr with rfl | rfl
  all_goals
    refine ⟨Nat.le_of_ble_eq_true rfl, fun C hC => hC _ _ _ _ _ _ ?_⟩
    exact ⟨_, _, _, _, _, _, _, _, _, _, _, _, _, _, _, _, _, _, _, _, _, _, _, _, rfl, rfl, And.intro (fun _ => hK) (fun c => absurd (bI_0.mpr (pn0 h0)) c)⟩
abbrev fdX14_owed_n : List (Nat ⊕ (Nat × Nat)) := [.inl 0, .inr (0, 7), .inr (0, 17), .inr (0, 18), .inr (0, 19), .inr (0, 20), .inr (0, 21), .inr (0, 22), .inr (0, 23), .inr (0, 26), .inr (0, 27), .inr (0, 28), .inr (0, 31), .inr (0, 32), .inr (0, 33), .inr (0, 34), .inr (0, 36), .inr (0, 37), .inr (0, 38), .inr (0, 39), .inr (0, 40), .inr (0, 41), .inr (0, 43), .inr (0, 44), .inr (0, 45), .inr (0, 46), .inr (0, 47), .inr (0, 48), .inr (0, 50), .inr (0, 51), .inr (0, 52)]
def spX14_owed_n : q_P := fun a w K => ∃ (fr : Value) (th : Int32) (tr : Int32) (wh : Int32) (fa : Int32) (ta : Nat) (sz : Int32) (ix : Int32) (so : Int32) (pl : Int32) (nu : Int32) (wd : Int64) (td : Int32) (mk : Int32) (mo : Int32) (tx : Nat → Int32) (P : PT) (D : DT) (ea : Nat → Int32) (pa : Nat → Int32) (co : Nat → Int32) (S : ST) (Cc : CT) (V : VT) (ba : Nat → Int32) (p : Int32), w = (modelN 0 fr (tk 0 6) th tr wh fa ta sz ix so pl nu wd td mk mo tx P D ea pa co S Cc V ba) ∧ a = [.ref 0, .int p] ∧ (fr = .null ∨ fr = tk 0 5) ∧ P.2.2.2.2.2.2 = 0 ∧ K (.inl (some (.long (-1)))) (modelN 0 fr (tk 0 6) (0) tr wh fa ta sz ix so pl nu wd td mk mo tx P D ea pa co S Cc V ba)
abbrev csX14_owed_n : q_S := (2, 14, 1, 2, 0, 0, fdX14_owed_n, spX14_owed_n)
def EX14_owed_n : q_E := (tX14_owed, [], 2, flX14, [(417, csX14_isPerson)], [(499, -1)], [], [], [], [], 1, 0, 0, (some .long), [], [], 0, 0)
theorem okX14_owed_n (l : Launch) : q_Eok l RX14 cX14_owed EX14_owed_n := ⟨tX14_owed_ok, flX14_ok, List.forall_mem_cons.mpr ⟨(coX14_417 l), q_nil⟩, List.forall_mem_cons.mpr ⟨q_G_i 1920 (by decide +kernel) rfl, q_nil⟩, q_nil, q_nil, q_nil, q_nil, (fun h => absurd h (by decide))⟩
set_option maxRecDepth 100000 in
set_option maxHeartbeats 4000000 in
theorem ctX14_owed_n (l : Launch) : q_CT l yX14_owed (.code yX14_owed cX14_owed 2 (some .long)) 1 0 0 spX14_owed_n := by
  refine q_ct_of EX14_owed_n (by decide +kernel) (okX14_owed_n l) rfl rfl rfl rfl rfl q_nil (fun ci h => by cases h) rfl ?_
  intro a w K h
  obtain ⟨fr, th, tr, wh, fa, ta, sz, ix, so, pl, nu, wd, td, mk, mo, tx, P, D, ea, pa, co, S, Cc, V, ba, p, rfl, rfl, hfr, h0, hK⟩ := h
  rcases hfr with rfl | rfl
  all_goals
    refine ⟨Nat.le_of_ble_eq_true rfl, fun C hC => hC _ _ _ _ _ _ ?_⟩
    exact ⟨_, _, _, _, _, _, _, _, _, _, _, _, _, _, _, _, _, _, _, _, _, _, _, _, rfl, rfl, And.intro (fun _ => hK) (fun c => absurd (bI_0.mpr (pn0 h0)) c)⟩
abbrev fdX14_led_n : List (Nat ⊕ (Nat × Nat)) := [.inl 0, .inr (0, 7), .inr (0, 17), .inr (0, 18), .inr (0, 19), .inr (0, 20), .inr (0, 21), .inr (0, 22), .inr (0, 23), .inr (0, 26), .inr (0, 27), .inr (0, 28), .inr (0, 31), .inr (0, 32), .inr (0, 33), .inr (0, 34), .inr (0, 36), .inr (0, 37), .inr (0, 38), .inr (0, 39), .inr (0, 40), .inr (0, 41), .inr (0, 43), .inr (0, 44), .inr (0, 45), .inr (0, 46), .inr (0, 47), .inr (0, 48), .inr (0, 50), .inr (0, 51), .inr (0, 52)]
def spX14_led_n : q_P := fun a w K => ∃ (fr : Value) (th : Int32) (tr : Int32) (wh : Int32) (fa : Int32) (ta : Nat) (sz : Int32) (ix : Int32) (so : Int32) (pl : Int32) (nu : Int32) (wd : Int64) (td : Int32) (mk : Int32) (mo : Int32) (tx : Nat → Int32) (P : PT) (D : DT) (ea : Nat → Int32) (pa : Nat → Int32) (co : Nat → Int32) (S : ST) (Cc : CT) (V : VT) (ba : Nat → Int32) (p x d i : Int32), w = (modelN 0 fr (tk 0 6) th tr wh fa ta sz ix so pl nu wd td mk mo tx P D ea pa co S Cc V ba) ∧ a = [.ref 0, .int p, .int x, .int d, .int i] ∧ (fr = .null ∨ fr = tk 0 5) ∧ P.2.2.2.2.2.2 = 0 ∧ K (.inl (some (.int 0))) (modelN 0 fr (tk 0 6) (1) tr wh fa ta sz ix so pl nu wd td mk mo tx P D ea pa co S Cc V ba)
abbrev csX14_led_n : q_S := (5, 14, 6, 8, 0, 0, fdX14_led_n, spX14_led_n)
def EX14_led_n : q_E := (tX14_led, [], 8, flX14, [(417, csX14_isPerson), (407, csX14_isOf_n), (411, csX14_isDay), (456, csX14_goes), (501, csX14_roadTo)], [], [(321, 1000000)], [], [], [], 6, 0, 0, (some .int), [], [], 0, 0)
theorem okX14_led_n (l : Launch) : q_Eok l RX14 cX14_led EX14_led_n := ⟨tX14_led_ok, flX14_ok, List.forall_mem_cons.mpr ⟨(coX14_417 l), List.forall_mem_cons.mpr ⟨(coX14_407_n l), List.forall_mem_cons.mpr ⟨(coX14_411 l), List.forall_mem_cons.mpr ⟨(coX14_456 l), List.forall_mem_cons.mpr ⟨(coX14_501 l), q_nil⟩⟩⟩⟩⟩, q_nil, List.forall_mem_cons.mpr ⟨q_G_i 1658 (by decide +kernel) rfl, q_nil⟩, q_nil, q_nil, q_nil, (fun h => absurd h (by decide))⟩
set_option maxRecDepth 100000 in
set_option maxHeartbeats 4000000 in
theorem ctX14_led_n (l : Launch) : q_CT l yX14_led (.code yX14_led cX14_led 8 (some .int)) 6 0 0 spX14_led_n := by
  refine q_ct_of EX14_led_n (by decide +kernel) (okX14_led_n l) rfl rfl rfl rfl rfl q_nil (fun ci h => by cases h) rfl ?_
  intro a w K h
  obtain ⟨fr, th, tr, wh, fa, ta, sz, ix, so, pl, nu, wd, td, mk, mo, tx, P, D, ea, pa, co, S, Cc, V, ba, p, x, d, i, rfl, rfl, hfr, h0, hK⟩ := h
  rcases hfr with rfl | rfl
  all_goals
    refine ⟨Nat.le_of_ble_eq_true rfl, fun C hC => hC _ _ _ _ _ _ ?_⟩
    exact ⟨_, _, _, _, _, _, _, _, _, _, _, _, _, _, _, _, _, _, _, _, _, _, _, _, rfl, rfl, And.intro (fun _ => hK) (fun c => absurd (bI_0.mpr (pn0 h0)) c)⟩
abbrev fdX14_takes_n : List (Nat ⊕ (Nat × Nat)) := [.inl 0, .inr (0, 7), .inr (0, 17), .inr (0, 18), .inr (0, 19), .inr (0, 20), .inr (0, 21), .inr (0, 22), .inr (0, 23), .inr (0, 26), .inr (0, 27), .inr (0, 28), .inr (0, 31), .inr (0, 32), .inr (0, 33), .inr (0, 34), .inr (0, 36), .inr (0, 37), .inr (0, 38), .inr (0, 39), .inr (0, 40), .inr (0, 41), .inr (0, 43), .inr (0, 44), .inr (0, 45), .inr (0, 46), .inr (0, 47), .inr (0, 48), .inr (0, 50), .inr (0, 51), .inr (0, 52)]
def spX14_takes_n : q_P := fun a w K => ∃ (fr : Value) (th : Int32) (tr : Int32) (wh : Int32) (fa : Int32) (ta : Nat) (sz : Int32) (ix : Int32) (so : Int32) (pl : Int32) (nu : Int32) (wd : Int64) (td : Int32) (mk : Int32) (mo : Int32) (tx : Nat → Int32) (P : PT) (D : DT) (ea : Nat → Int32) (pa : Nat → Int32) (co : Nat → Int32) (S : ST) (Cc : CT) (V : VT) (ba : Nat → Int32) (ld k o d kn : Int32), w = (modelN 0 fr (tk 0 6) th tr wh fa ta sz ix so pl nu wd td mk mo tx P D ea pa co S Cc V ba) ∧ a = [.ref 0, .int ld, .int k, .int o, .int d, .int kn] ∧ (fr = .null ∨ fr = tk 0 5) ∧ K (.inl (some (.int (-1)))) (modelN 0 fr (tk 0 6) (0) (1) (-1) fa ta sz ix so pl nu wd td mk mo tx P D ea pa co S Cc V ba)
abbrev csX14_takes_n : q_S := (6, 14, 2, 7, 0, 0, fdX14_takes_n, spX14_takes_n)
def EX14_takes_n : q_E := (tX14_takes, [], 7, flX14, [(407, csX14_isOf_n), (365, csX14_refused), (411, csX14_isDay), (403, csX14_lawOf), (397, csX14_done)], [], [], [], [], [], 2, 0, 0, (some .int), [], [], 0, 0)
theorem okX14_takes_n (l : Launch) : q_Eok l RX14 cX14_takes EX14_takes_n := ⟨tX14_takes_ok, flX14_ok, List.forall_mem_cons.mpr ⟨(coX14_407_n l), List.forall_mem_cons.mpr ⟨(coX14_365 l), List.forall_mem_cons.mpr ⟨(coX14_411 l), List.forall_mem_cons.mpr ⟨(coX14_403 l), List.forall_mem_cons.mpr ⟨(coX14_397 l), q_nil⟩⟩⟩⟩⟩, q_nil, q_nil, q_nil, q_nil, q_nil, (fun h => absurd h (by decide))⟩
set_option maxRecDepth 100000 in
set_option maxHeartbeats 4000000 in
theorem ctX14_takes_n (l : Launch) : q_CT l yX14_takes (.code yX14_takes cX14_takes 7 (some .int)) 2 0 0 spX14_takes_n := by
  refine q_ct_of EX14_takes_n (by decide +kernel) (okX14_takes_n l) rfl rfl rfl rfl rfl q_nil (fun ci h => by cases h) rfl ?_
  intro a w K h
  obtain ⟨fr, th, tr, wh, fa, ta, sz, ix, so, pl, nu, wd, td, mk, mo, tx, P, D, ea, pa, co, S, Cc, V, ba, ld, k, o, d, kn, rfl, rfl, hfr, hK⟩ := h
  rcases hfr with rfl | rfl
  all_goals
    refine ⟨Nat.le_of_ble_eq_true rfl, fun C hC => hC _ _ _ _ _ _ ?_⟩
    exact ⟨_, _, _, _, _, _, _, _, _, _, _, _, _, _, _, _, _, _, _, _, .null, _, _, _, _, rfl, rfl, And.intro (fun _ => ⟨_, _, _, _, _, _, _, _, _, _, _, _, _, _, _, _, _, _, _, _, _, _, _, _, rfl, rfl, hK⟩) (fun c => absurd rfl c)⟩
abbrev fdX14_why_n : List (Nat ⊕ (Nat × Nat)) := [.inl 0, .inr (0, 7), .inr (0, 17), .inr (0, 18), .inr (0, 19), .inr (0, 20), .inr (0, 21), .inr (0, 22), .inr (0, 23), .inr (0, 26), .inr (0, 27), .inr (0, 28), .inr (0, 31), .inr (0, 32), .inr (0, 33), .inr (0, 34), .inr (0, 36), .inr (0, 37), .inr (0, 38), .inr (0, 39), .inr (0, 40), .inr (0, 41), .inr (0, 43), .inr (0, 44), .inr (0, 45), .inr (0, 46), .inr (0, 47), .inr (0, 48), .inr (0, 50), .inr (0, 51), .inr (0, 52)]
def spX14_why_n : q_P := fun a w K => ∃ (fr : Value) (th : Int32) (tr : Int32) (wh : Int32) (fa : Int32) (ta : Nat) (sz : Int32) (ix : Int32) (so : Int32) (pl : Int32) (nu : Int32) (wd : Int64) (td : Int32) (mk : Int32) (mo : Int32) (tx : Nat → Int32) (P : PT) (D : DT) (ea : Nat → Int32) (pa : Nat → Int32) (co : Nat → Int32) (S : ST) (Cc : CT) (V : VT) (ba : Nat → Int32) (ld k o d kn : Int32), w = (modelN 0 fr (tk 0 6) th tr wh fa ta sz ix so pl nu wd td mk mo tx P D ea pa co S Cc V ba) ∧ a = [.ref 0, .int ld, .int k, .int o, .int d, .int kn] ∧ (fr = .null ∨ fr = tk 0 5) ∧ K (.inl (some (.int (-1)))) (modelN 0 fr (tk 0 6) (0) (1) (-1) fa ta sz ix so pl nu wd td mk mo tx P D ea pa co S Cc V ba)
abbrev csX14_why_n : q_S := (6, 14, 2, 7, 0, 0, fdX14_why_n, spX14_why_n)
def EX14_why_n : q_E := (tX14_why, [], 7, flX14, [(407, csX14_isOf_n), (365, csX14_refused), (411, csX14_isDay), (403, csX14_lawOf), (397, csX14_done)], [], [], [], [], [], 2, 0, 0, (some .int), [], [], 0, 0)
theorem okX14_why_n (l : Launch) : q_Eok l RX14 cX14_why EX14_why_n := ⟨tX14_why_ok, flX14_ok, List.forall_mem_cons.mpr ⟨(coX14_407_n l), List.forall_mem_cons.mpr ⟨(coX14_365 l), List.forall_mem_cons.mpr ⟨(coX14_411 l), List.forall_mem_cons.mpr ⟨(coX14_403 l), List.forall_mem_cons.mpr ⟨(coX14_397 l), q_nil⟩⟩⟩⟩⟩, q_nil, q_nil, q_nil, q_nil, q_nil, (fun h => absurd h (by decide))⟩
set_option maxRecDepth 100000 in
set_option maxHeartbeats 4000000 in
theorem ctX14_why_n (l : Launch) : q_CT l yX14_why (.code yX14_why cX14_why 7 (some .int)) 2 0 0 spX14_why_n := by
  refine q_ct_of EX14_why_n (by decide +kernel) (okX14_why_n l) rfl rfl rfl rfl rfl q_nil (fun ci h => by cases h) rfl ?_
  intro a w K h
  obtain ⟨fr, th, tr, wh, fa, ta, sz, ix, so, pl, nu, wd, td, mk, mo, tx, P, D, ea, pa, co, S, Cc, V, ba, ld, k, o, d, kn, rfl, rfl, hfr, hK⟩ := h
  rcases hfr with rfl | rfl
  all_goals
    refine ⟨Nat.le_of_ble_eq_true rfl, fun C hC => hC _ _ _ _ _ _ ?_⟩
    exact ⟨_, _, _, _, _, _, _, _, _, _, _, _, _, _, _, _, _, _, _, _, .null, _, _, _, _, rfl, rfl, And.intro (fun _ => ⟨_, _, _, _, _, _, _, _, _, _, _, _, _, _, _, _, _, _, _, _, _, _, _, _, rfl, rfl, hK⟩) (fun c => absurd rfl c)⟩
abbrev fdX14_person_n : List (Nat ⊕ (Nat × Nat)) := [.inl 0, .inr (0, 7), .inr (0, 17), .inr (0, 18), .inr (0, 19), .inr (0, 20), .inr (0, 21), .inr (0, 22), .inr (0, 23), .inr (0, 26), .inr (0, 27), .inr (0, 28), .inr (0, 31), .inr (0, 32), .inr (0, 33), .inr (0, 34), .inr (0, 36), .inr (0, 37), .inr (0, 38), .inr (0, 39), .inr (0, 40), .inr (0, 41), .inr (0, 43), .inr (0, 44), .inr (0, 45), .inr (0, 46), .inr (0, 47), .inr (0, 48), .inr (0, 50), .inr (0, 51), .inr (0, 52)]
def spX14_person_n : q_P := fun a w K => ∃ (fr : Value) (th : Int32) (tr : Int32) (wh : Int32) (fa : Int32) (ta : Nat) (sz : Int32) (ix : Int32) (so : Int32) (pl : Int32) (nu : Int32) (wd : Int64) (td : Int32) (mk : Int32) (mo : Int32) (tx : Nat → Int32) (P : PT) (D : DT) (ea : Nat → Int32) (pa : Nat → Int32) (co : Nat → Int32) (S : ST) (Cc : CT) (V : VT) (ba : Nat → Int32) (x : Int32), w = (modelN 0 fr (tk 0 6) th tr wh fa ta sz ix so pl nu wd td mk mo tx P D ea pa co S Cc V ba) ∧ a = [.ref 0, .int x] ∧ (fr = .null ∨ fr = tk 0 5) ∧ K (.inl (some (.int (-1)))) (modelN 0 fr (tk 0 6) (0) (1) (-1) fa ta sz ix so pl nu wd td mk mo tx P D ea pa co S Cc V ba)
abbrev csX14_person_n : q_S := (2, 14, 1, 2, 0, 0, fdX14_person_n, spX14_person_n)
def EX14_person_n : q_E := (tX14_person, [], 2, flX14, [(407, csX14_isOf_n), (365, csX14_refused), (414, csX14_comes), (397, csX14_done)], [], [], [], [], [], 1, 0, 0, (some .int), [], [], 0, 0)
theorem okX14_person_n (l : Launch) : q_Eok l RX14 cX14_person EX14_person_n := ⟨tX14_person_ok, flX14_ok, List.forall_mem_cons.mpr ⟨(coX14_407_n l), List.forall_mem_cons.mpr ⟨(coX14_365 l), List.forall_mem_cons.mpr ⟨(coX14_414 l), List.forall_mem_cons.mpr ⟨(coX14_397 l), q_nil⟩⟩⟩⟩, q_nil, q_nil, q_nil, q_nil, q_nil, (fun h => absurd h (by decide))⟩
set_option maxRecDepth 100000 in
set_option maxHeartbeats 4000000 in
theorem ctX14_person_n (l : Launch) : q_CT l yX14_person (.code yX14_person cX14_person 2 (some .int)) 1 0 0 spX14_person_n := by
  refine q_ct_of EX14_person_n (by decide +kernel) (okX14_person_n l) rfl rfl rfl rfl rfl q_nil (fun ci h => by cases h) rfl ?_
  intro a w K h
  obtain ⟨fr, th, tr, wh, fa, ta, sz, ix, so, pl, nu, wd, td, mk, mo, tx, P, D, ea, pa, co, S, Cc, V, ba, x, rfl, rfl, hfr, hK⟩ := h
  rcases hfr with rfl | rfl
  all_goals
    refine ⟨Nat.le_of_ble_eq_true rfl, fun C hC => hC _ _ _ _ _ _ ?_⟩
    exact ⟨_, _, _, _, _, _, _, _, _, _, _, _, _, _, _, _, _, _, _, _, .null, _, _, _, _, rfl, rfl, And.intro (fun c => absurd rfl c) (fun _ => ⟨_, _, _, _, _, _, _, _, _, _, _, _, _, _, _, _, _, _, _, _, _, _, _, _, rfl, rfl, hK⟩)⟩
abbrev fdX14_nowhere_n : List (Nat ⊕ (Nat × Nat)) := [.inl 0, .inr (0, 7), .inr (0, 17), .inr (0, 18), .inr (0, 19), .inr (0, 20), .inr (0, 21), .inr (0, 22), .inr (0, 23), .inr (0, 26), .inr (0, 27), .inr (0, 28), .inr (0, 31), .inr (0, 32), .inr (0, 33), .inr (0, 34), .inr (0, 36), .inr (0, 37), .inr (0, 38), .inr (0, 39), .inr (0, 40), .inr (0, 41), .inr (0, 43), .inr (0, 44), .inr (0, 45), .inr (0, 46), .inr (0, 47), .inr (0, 48), .inr (0, 50), .inr (0, 51), .inr (0, 52)]
def spX14_nowhere_n : q_P := fun a w K => ∃ (fr : Value) (th : Int32) (tr : Int32) (wh : Int32) (fa : Int32) (ta : Nat) (sz : Int32) (ix : Int32) (so : Int32) (pl : Int32) (nu : Int32) (wd : Int64) (td : Int32) (mk : Int32) (mo : Int32) (tx : Nat → Int32) (P : PT) (D : DT) (ea : Nat → Int32) (pa : Nat → Int32) (co : Nat → Int32) (S : ST) (Cc : CT) (V : VT) (ba : Nat → Int32) (k d : Int32), w = (modelN 0 fr (tk 0 6) th tr wh fa ta sz ix so pl nu wd td mk mo tx P D ea pa co S Cc V ba) ∧ a = [.ref 0, .int k, .int d] ∧ (fr = .null ∨ fr = tk 0 5) ∧ K (.inl (some (.int (-1)))) (modelN 0 fr (tk 0 6) (0) (1) (-1) fa ta sz ix so pl nu wd td mk mo tx P D ea pa co S Cc V ba)
abbrev csX14_nowhere_n : q_S := (3, 14, 4, 7, 0, 0, fdX14_nowhere_n, spX14_nowhere_n)
def EX14_nowhere_n : q_E := (tX14_nowhere, [], 7, flX14, [(407, csX14_isOf_n), (365, csX14_refused), (411, csX14_isDay), (437, csX14_goodIn), (397, csX14_done)], [], [], [], [], [], 4, 0, 0, (some .int), [], [], 0, 0)
theorem okX14_nowhere_n (l : Launch) : q_Eok l RX14 cX14_nowhere EX14_nowhere_n := ⟨tX14_nowhere_ok, flX14_ok, List.forall_mem_cons.mpr ⟨(coX14_407_n l), List.forall_mem_cons.mpr ⟨(coX14_365 l), List.forall_mem_cons.mpr ⟨(coX14_411 l), List.forall_mem_cons.mpr ⟨(coX14_437 l), List.forall_mem_cons.mpr ⟨(coX14_397 l), q_nil⟩⟩⟩⟩⟩, q_nil, q_nil, q_nil, q_nil, q_nil, (fun h => absurd h (by decide))⟩
set_option maxRecDepth 100000 in
set_option maxHeartbeats 4000000 in
theorem ctX14_nowhere_n (l : Launch) : q_CT l yX14_nowhere (.code yX14_nowhere cX14_nowhere 7 (some .int)) 4 0 0 spX14_nowhere_n := by
  refine q_ct_of EX14_nowhere_n (by decide +kernel) (okX14_nowhere_n l) rfl rfl rfl rfl rfl q_nil (fun ci h => by cases h) rfl ?_
  intro a w K h
  obtain ⟨fr, th, tr, wh, fa, ta, sz, ix, so, pl, nu, wd, td, mk, mo, tx, P, D, ea, pa, co, S, Cc, V, ba, k, d, rfl, rfl, hfr, hK⟩ := h
  rcases hfr with rfl | rfl
  all_goals
    refine ⟨Nat.le_of_ble_eq_true rfl, fun C hC => hC _ _ _ _ _ _ ?_⟩
    exact ⟨_, _, _, _, _, _, _, _, _, _, _, _, _, _, _, _, _, _, _, _, .null, _, _, _, _, rfl, rfl, And.intro (fun c => absurd rfl c) (fun _ => ⟨_, _, _, _, _, _, _, _, _, _, _, _, _, _, _, _, _, _, _, _, _, _, _, _, rfl, rfl, hK⟩)⟩
abbrev fdX14_stamp_n : List (Nat ⊕ (Nat × Nat)) := [.inl 0, .inr (0, 7), .inr (0, 17), .inr (0, 18), .inr (0, 19), .inr (0, 20), .inr (0, 21), .inr (0, 22), .inr (0, 23), .inr (0, 26), .inr (0, 27), .inr (0, 28), .inr (0, 31), .inr (0, 32), .inr (0, 33), .inr (0, 34), .inr (0, 36), .inr (0, 37), .inr (0, 38), .inr (0, 39), .inr (0, 40), .inr (0, 41), .inr (0, 43), .inr (0, 44), .inr (0, 45), .inr (0, 46), .inr (0, 47), .inr (0, 48), .inr (0, 50), .inr (0, 51), .inr (0, 52)]
def spX14_stamp_n : q_P := fun a w K => ∃ (fr : Value) (th : Int32) (tr : Int32) (wh : Int32) (fa : Int32) (ta : Nat) (sz : Int32) (ix : Int32) (so : Int32) (pl : Int32) (nu : Int32) (wd : Int64) (td : Int32) (mk : Int32) (mo : Int32) (tx : Nat → Int32) (P : PT) (D : DT) (ea : Nat → Int32) (pa : Nat → Int32) (co : Nat → Int32) (S : ST) (Cc : CT) (V : VT) (ba : Nat → Int32) (k o x : Int32), w = (modelN 0 fr (tk 0 6) th tr wh fa ta sz ix so pl nu wd td mk mo tx P D ea pa co S Cc V ba) ∧ a = [.ref 0, .int k, .int o, .int x] ∧ (fr = .null ∨ fr = tk 0 5) ∧ K (.inl (some (.int (-1)))) (modelN 0 fr (tk 0 6) (0) (1) (-1) fa ta sz ix so pl nu wd td mk mo tx P D ea pa co S Cc V ba)
abbrev csX14_stamp_n : q_S := (4, 14, 1, 4, 0, 0, fdX14_stamp_n, spX14_stamp_n)
def EX14_stamp_n : q_E := (tX14_stamp, [], 4, flX14, [(407, csX14_isOf_n), (365, csX14_refused), (207, csX14_in), (397, csX14_done)], [], [], [], [], [], 1, 0, 0, (some .int), [], [], 0, 0)
theorem okX14_stamp_n (l : Launch) : q_Eok l RX14 cX14_stamp EX14_stamp_n := ⟨tX14_stamp_ok, flX14_ok, List.forall_mem_cons.mpr ⟨(coX14_407_n l), List.forall_mem_cons.mpr ⟨(coX14_365 l), List.forall_mem_cons.mpr ⟨(coX14_207 l), List.forall_mem_cons.mpr ⟨(coX14_397 l), q_nil⟩⟩⟩⟩, q_nil, q_nil, q_nil, q_nil, q_nil, (fun h => absurd h (by decide))⟩
set_option maxRecDepth 100000 in
set_option maxHeartbeats 4000000 in
theorem ctX14_stamp_n (l : Launch) : q_CT l yX14_stamp (.code yX14_stamp cX14_stamp 4 (some .int)) 1 0 0 spX14_stamp_n := by
  refine q_ct_of EX14_stamp_n (by decide +kernel) (okX14_stamp_n l) rfl rfl rfl rfl rfl q_nil (fun ci h => by cases h) rfl ?_
  intro a w K h
  obtain ⟨fr, th, tr, wh, fa, ta, sz, ix, so, pl, nu, wd, td, mk, mo, tx, P, D, ea, pa, co, S, Cc, V, ba, k, o, x, rfl, rfl, hfr, hK⟩ := h
  rcases hfr with rfl | rfl
  all_goals
    refine ⟨Nat.le_of_ble_eq_true rfl, fun C hC => hC _ _ _ _ _ _ ?_⟩
    exact ⟨_, _, _, _, _, _, _, _, _, _, _, _, _, _, _, _, _, _, _, _, .null, _, _, _, _, rfl, rfl, And.intro (fun _ => ⟨_, _, _, _, _, _, _, _, _, _, _, _, _, _, _, _, _, _, _, _, _, _, _, _, rfl, rfl, hK⟩) (fun c => absurd rfl c)⟩
abbrev fdX14_least_n : List (Nat ⊕ (Nat × Nat)) := [.inl 0, .inr (0, 7), .inr (0, 17), .inr (0, 18), .inr (0, 19), .inr (0, 20), .inr (0, 21), .inr (0, 22), .inr (0, 23), .inr (0, 26), .inr (0, 27), .inr (0, 28), .inr (0, 31), .inr (0, 32), .inr (0, 33), .inr (0, 34), .inr (0, 36), .inr (0, 37), .inr (0, 38), .inr (0, 39), .inr (0, 40), .inr (0, 41), .inr (0, 43), .inr (0, 44), .inr (0, 45), .inr (0, 46), .inr (0, 47), .inr (0, 48), .inr (0, 50), .inr (0, 51), .inr (0, 52)]
def spX14_least_n : q_P := fun a w K => ∃ (fr : Value) (th : Int32) (tr : Int32) (wh : Int32) (fa : Int32) (ta : Nat) (sz : Int32) (ix : Int32) (so : Int32) (pl : Int32) (nu : Int32) (wd : Int64) (td : Int32) (mk : Int32) (mo : Int32) (tx : Nat → Int32) (P : PT) (D : DT) (ea : Nat → Int32) (pa : Nat → Int32) (co : Nat → Int32) (S : ST) (Cc : CT) (V : VT) (ba : Nat → Int32) (x y d : Int32), w = (modelN 0 fr (tk 0 6) th tr wh fa ta sz ix so pl nu wd td mk mo tx P D ea pa co S Cc V ba) ∧ a = [.ref 0, .int x, .int y, .int d] ∧ (fr = .null ∨ fr = tk 0 5) ∧ K (.inl (some (.int (-1)))) (modelN 0 fr (tk 0 6) (0) (1) (-1) fa ta sz ix so pl nu wd td mk mo tx P D ea pa co S Cc V ba)
abbrev csX14_least_n : q_S := (4, 14, 3, 9, 0, 0, fdX14_least_n, spX14_least_n)
def EX14_least_n : q_E := (tX14_least, [], 9, flX14, [(407, csX14_isOf_n), (365, csX14_refused), (411, csX14_isDay), (465, csX14_stampsOf), (468, csX14_bits), (471, csX14_isCarried), (397, csX14_done)], [], [], [], [], [], 3, 0, 0, (some .int), [], [], 0, 0)
theorem okX14_least_n (l : Launch) : q_Eok l RX14 cX14_least EX14_least_n := ⟨tX14_least_ok, flX14_ok, List.forall_mem_cons.mpr ⟨(coX14_407_n l), List.forall_mem_cons.mpr ⟨(coX14_365 l), List.forall_mem_cons.mpr ⟨(coX14_411 l), List.forall_mem_cons.mpr ⟨(coX14_465 l), List.forall_mem_cons.mpr ⟨(coX14_468 l), List.forall_mem_cons.mpr ⟨(coX14_471 l), List.forall_mem_cons.mpr ⟨(coX14_397 l), q_nil⟩⟩⟩⟩⟩⟩⟩, q_nil, q_nil, q_nil, q_nil, q_nil, (fun h => absurd h (by decide))⟩
set_option maxRecDepth 100000 in
set_option maxHeartbeats 4000000 in
theorem ctX14_least_n (l : Launch) : q_CT l yX14_least (.code yX14_least cX14_least 9 (some .int)) 3 0 0 spX14_least_n := by
  refine q_ct_of EX14_least_n (by decide +kernel) (okX14_least_n l) rfl rfl rfl rfl rfl q_nil (fun ci h => by cases h) rfl ?_
  intro a w K h
  obtain ⟨fr, th, tr, wh, fa, ta, sz, ix, so, pl, nu, wd, td, mk, mo, tx, P, D, ea, pa, co, S, Cc, V, ba, x, y, d, rfl, rfl, hfr, hK⟩ := h
  rcases hfr with rfl | rfl
  all_goals
    refine ⟨Nat.le_of_ble_eq_true rfl, fun C hC => hC _ _ _ _ _ _ ?_⟩
    exact ⟨_, _, _, _, _, _, _, _, _, _, _, _, _, _, _, _, _, _, _, _, .null, _, _, _, _, rfl, rfl, And.intro (fun _ => ⟨_, _, _, _, _, _, _, _, _, _, _, _, _, _, _, _, _, _, _, _, _, _, _, _, rfl, rfl, hK⟩) (fun c => absurd rfl c)⟩
abbrev fdX14_judge_n : List (Nat ⊕ (Nat × Nat)) := [.inl 0, .inr (0, 7), .inr (0, 17), .inr (0, 18), .inr (0, 19), .inr (0, 20), .inr (0, 21), .inr (0, 22), .inr (0, 23), .inr (0, 26), .inr (0, 27), .inr (0, 28), .inr (0, 31), .inr (0, 32), .inr (0, 33), .inr (0, 34), .inr (0, 36), .inr (0, 37), .inr (0, 38), .inr (0, 39), .inr (0, 40), .inr (0, 41), .inr (0, 43), .inr (0, 44), .inr (0, 45), .inr (0, 46), .inr (0, 47), .inr (0, 48), .inr (0, 50), .inr (0, 51), .inr (0, 52)]
def spX14_judge_n : q_P := fun a w K => ∃ (fr : Value) (th : Int32) (tr : Int32) (wh : Int32) (fa : Int32) (ta : Nat) (sz : Int32) (ix : Int32) (so : Int32) (pl : Int32) (nu : Int32) (wd : Int64) (td : Int32) (mk : Int32) (mo : Int32) (tx : Nat → Int32) (P : PT) (D : DT) (ea : Nat → Int32) (pa : Nat → Int32) (co : Nat → Int32) (S : ST) (Cc : CT) (V : VT) (ba : Nat → Int32) (k o p mt v : Int32), w = (modelN 0 fr (tk 0 6) th tr wh fa ta sz ix so pl nu wd td mk mo tx P D ea pa co S Cc V ba) ∧ a = [.ref 0, .int k, .int o, .int p, .int mt, .int v] ∧ (fr = .null ∨ fr = tk 0 5) ∧ K (.inl (some (.int (-1)))) (modelN 0 fr (tk 0 6) (0) (1) (-1) fa ta sz ix so pl nu wd td mk mo tx P D ea pa co S Cc V ba)
abbrev csX14_judge_n : q_S := (6, 14, 1, 6, 0, 0, fdX14_judge_n, spX14_judge_n)
def EX14_judge_n : q_E := (tX14_judge, [], 6, flX14, [(407, csX14_isOf_n), (417, csX14_isPerson), (365, csX14_refused), (207, csX14_in), (397, csX14_done)], [], [], [], [], [], 1, 0, 0, (some .int), [], [], 0, 0)
theorem okX14_judge_n (l : Launch) : q_Eok l RX14 cX14_judge EX14_judge_n := ⟨tX14_judge_ok, flX14_ok, List.forall_mem_cons.mpr ⟨(coX14_407_n l), List.forall_mem_cons.mpr ⟨(coX14_417 l), List.forall_mem_cons.mpr ⟨(coX14_365 l), List.forall_mem_cons.mpr ⟨(coX14_207 l), List.forall_mem_cons.mpr ⟨(coX14_397 l), q_nil⟩⟩⟩⟩⟩, q_nil, q_nil, q_nil, q_nil, q_nil, (fun h => absurd h (by decide))⟩
set_option maxRecDepth 100000 in
set_option maxHeartbeats 4000000 in
theorem ctX14_judge_n (l : Launch) : q_CT l yX14_judge (.code yX14_judge cX14_judge 6 (some .int)) 1 0 0 spX14_judge_n := by
  refine q_ct_of EX14_judge_n (by decide +kernel) (okX14_judge_n l) rfl rfl rfl rfl rfl q_nil (fun ci h => by cases h) rfl ?_
  intro a w K h
  obtain ⟨fr, th, tr, wh, fa, ta, sz, ix, so, pl, nu, wd, td, mk, mo, tx, P, D, ea, pa, co, S, Cc, V, ba, k, o, p, mt, v, rfl, rfl, hfr, hK⟩ := h
  rcases hfr with rfl | rfl
  all_goals
    refine ⟨Nat.le_of_ble_eq_true rfl, fun C hC => hC _ _ _ _ _ _ ?_⟩
    exact ⟨_, _, _, _, _, _, _, _, _, _, _, _, _, _, _, _, _, _, _, _, .null, _, _, _, _, rfl, rfl, And.intro (fun _ => ⟨_, _, _, _, _, _, _, _, _, _, _, _, _, _, _, _, _, _, _, _, _, _, _, _, rfl, rfl, hK⟩) (fun c => absurd rfl c)⟩
abbrev fdX14_pass_n : List (Nat ⊕ (Nat × Nat)) := [.inl 0, .inr (0, 7), .inr (0, 17), .inr (0, 18), .inr (0, 19), .inr (0, 20), .inr (0, 21), .inr (0, 22), .inr (0, 23), .inr (0, 26), .inr (0, 27), .inr (0, 28), .inr (0, 31), .inr (0, 32), .inr (0, 33), .inr (0, 34), .inr (0, 36), .inr (0, 37), .inr (0, 38), .inr (0, 39), .inr (0, 40), .inr (0, 41), .inr (0, 43), .inr (0, 44), .inr (0, 45), .inr (0, 46), .inr (0, 47), .inr (0, 48), .inr (0, 50), .inr (0, 51), .inr (0, 52)]
def spX14_pass_n : q_P := fun a w K => ∃ (fr : Value) (th : Int32) (tr : Int32) (wh : Int32) (fa : Int32) (ta : Nat) (sz : Int32) (ix : Int32) (so : Int32) (pl : Int32) (nu : Int32) (wd : Int64) (td : Int32) (mk : Int32) (mo : Int32) (tx : Nat → Int32) (P : PT) (D : DT) (ea : Nat → Int32) (pa : Nat → Int32) (co : Nat → Int32) (S : ST) (Cc : CT) (V : VT) (ba : Nat → Int32) (x : Int32), w = (modelN 0 fr (tk 0 6) th tr wh fa ta sz ix so pl nu wd td mk mo tx P D ea pa co S Cc V ba) ∧ a = [.ref 0, .int x] ∧ (fr = .null ∨ fr = tk 0 5) ∧ K (.inl (some (.int (-1)))) (modelN 0 fr (tk 0 6) (0) (1) (-1) fa ta sz ix so pl nu wd td mk mo tx P D ea pa co S Cc V ba)
abbrev csX14_pass_n : q_S := (2, 14, 1, 2, 0, 0, fdX14_pass_n, spX14_pass_n)
def EX14_pass_n : q_E := (tX14_pass, [], 2, flX14, [(365, csX14_refused), (207, csX14_in), (397, csX14_done)], [], [], [], [], [], 1, 0, 0, (some .int), [], [], 0, 0)
theorem okX14_pass_n (l : Launch) : q_Eok l RX14 cX14_pass EX14_pass_n := ⟨tX14_pass_ok, flX14_ok, List.forall_mem_cons.mpr ⟨(coX14_365 l), List.forall_mem_cons.mpr ⟨(coX14_207 l), List.forall_mem_cons.mpr ⟨(coX14_397 l), q_nil⟩⟩⟩, q_nil, q_nil, q_nil, q_nil, q_nil, (fun h => absurd h (by decide))⟩
set_option maxRecDepth 100000 in
set_option maxHeartbeats 4000000 in
theorem ctX14_pass_n (l : Launch) : q_CT l yX14_pass (.code yX14_pass cX14_pass 2 (some .int)) 1 0 0 spX14_pass_n := by
  refine q_ct_of EX14_pass_n (by decide +kernel) (okX14_pass_n l) rfl rfl rfl rfl rfl q_nil (fun ci h => by cases h) rfl ?_
  intro a w K h
  obtain ⟨fr, th, tr, wh, fa, ta, sz, ix, so, pl, nu, wd, td, mk, mo, tx, P, D, ea, pa, co, S, Cc, V, ba, x, rfl, rfl, hfr, hK⟩ := h
  rcases hfr with rfl | rfl
  all_goals
    refine ⟨Nat.le_of_ble_eq_true rfl, fun C hC => hC _ _ _ _ _ _ ?_⟩
    exact ⟨_, _, _, _, _, _, _, _, _, _, _, _, _, _, _, _, _, _, _, _, _, _, _, _, rfl, rfl, hK⟩
abbrev fdX14_clause_n : List (Nat ⊕ (Nat × Nat)) := [.inl 0, .inr (0, 7), .inr (0, 17), .inr (0, 18), .inr (0, 19), .inr (0, 20), .inr (0, 21), .inr (0, 22), .inr (0, 23), .inr (0, 26), .inr (0, 27), .inr (0, 28), .inr (0, 31), .inr (0, 32), .inr (0, 33), .inr (0, 34), .inr (0, 36), .inr (0, 37), .inr (0, 38), .inr (0, 39), .inr (0, 40), .inr (0, 41), .inr (0, 43), .inr (0, 44), .inr (0, 45), .inr (0, 46), .inr (0, 47), .inr (0, 48), .inr (0, 50), .inr (0, 51), .inr (0, 52)]
def spX14_clause_n : q_P := fun a w K => ∃ (fr : Value) (th : Int32) (tr : Int32) (wh : Int32) (fa : Int32) (ta : Nat) (sz : Int32) (ix : Int32) (so : Int32) (pl : Int32) (nu : Int32) (wd : Int64) (td : Int32) (mk : Int32) (mo : Int32) (tx : Nat → Int32) (P : PT) (D : DT) (ea : Nat → Int32) (pa : Nat → Int32) (co : Nat → Int32) (S : ST) (Cc : CT) (V : VT) (ba : Nat → Int32) (t x : Int32), w = (modelN 0 fr (tk 0 6) th tr wh fa ta sz ix so pl nu wd td mk mo tx P D ea pa co S Cc V ba) ∧ a = [.ref 0, .int t, .int x] ∧ (fr = .null ∨ fr = tk 0 5) ∧ K (.inl (some (.int (-1)))) (modelN 0 fr (tk 0 6) (0) (1) (-1) fa ta sz ix so pl nu wd td mk mo tx P D ea pa co S Cc V ba)
abbrev csX14_clause_n : q_S := (3, 14, 1, 3, 0, 0, fdX14_clause_n, spX14_clause_n)
def EX14_clause_n : q_E := (tX14_clause, [], 3, flX14, [(207, csX14_in), (365, csX14_refused), (397, csX14_done)], [], [(490, 65535)], [], [], [], 1, 0, 0, (some .int), [], [], 0, 0)
theorem okX14_clause_n (l : Launch) : q_Eok l RX14 cX14_clause EX14_clause_n := ⟨tX14_clause_ok, flX14_ok, List.forall_mem_cons.mpr ⟨(coX14_207 l), List.forall_mem_cons.mpr ⟨(coX14_365 l), List.forall_mem_cons.mpr ⟨(coX14_397 l), q_nil⟩⟩⟩, q_nil, List.forall_mem_cons.mpr ⟨q_G_i 1879 (by decide +kernel) rfl, q_nil⟩, q_nil, q_nil, q_nil, (fun h => absurd h (by decide))⟩
set_option maxRecDepth 100000 in
set_option maxHeartbeats 4000000 in
theorem ctX14_clause_n (l : Launch) : q_CT l yX14_clause (.code yX14_clause cX14_clause 3 (some .int)) 1 0 0 spX14_clause_n := by
  refine q_ct_of EX14_clause_n (by decide +kernel) (okX14_clause_n l) rfl rfl rfl rfl rfl q_nil (fun ci h => by cases h) rfl ?_
  intro a w K h
  obtain ⟨fr, th, tr, wh, fa, ta, sz, ix, so, pl, nu, wd, td, mk, mo, tx, P, D, ea, pa, co, S, Cc, V, ba, t, x, rfl, rfl, hfr, hK⟩ := h
  rcases hfr with rfl | rfl
  all_goals
    refine ⟨Nat.le_of_ble_eq_true rfl, fun C hC => hC _ _ _ _ _ _ ?_⟩
    exact ⟨_, _, _, _, _, _, _, _, _, _, _, _, _, _, _, _, _, _, _, _, _, _, _, _, rfl, rfl, hK⟩
abbrev fdX14_quarrel_n : List (Nat ⊕ (Nat × Nat)) := [.inl 0, .inr (0, 7), .inr (0, 17), .inr (0, 18), .inr (0, 19), .inr (0, 20), .inr (0, 21), .inr (0, 22), .inr (0, 23), .inr (0, 26), .inr (0, 27), .inr (0, 28), .inr (0, 31), .inr (0, 32), .inr (0, 33), .inr (0, 34), .inr (0, 36), .inr (0, 37), .inr (0, 38), .inr (0, 39), .inr (0, 40), .inr (0, 41), .inr (0, 43), .inr (0, 44), .inr (0, 45), .inr (0, 46), .inr (0, 47), .inr (0, 48), .inr (0, 50), .inr (0, 51), .inr (0, 52)]
def spX14_quarrel_n : q_P := fun a w K => ∃ (fr : Value) (th : Int32) (tr : Int32) (wh : Int32) (fa : Int32) (ta : Nat) (sz : Int32) (ix : Int32) (so : Int32) (pl : Int32) (nu : Int32) (wd : Int64) (td : Int32) (mk : Int32) (mo : Int32) (tx : Nat → Int32) (P : PT) (D : DT) (ea : Nat → Int32) (pa : Nat → Int32) (co : Nat → Int32) (S : ST) (Cc : CT) (V : VT) (ba : Nat → Int32) (x y : Int32), w = (modelN 0 fr (tk 0 6) th tr wh fa ta sz ix so pl nu wd td mk mo tx P D ea pa co S Cc V ba) ∧ a = [.ref 0, .int x, .int y] ∧ (fr = .null ∨ fr = tk 0 5) ∧ K (.inl (some (.int (-1)))) (modelN 0 fr (tk 0 6) (0) (1) (-1) fa ta sz ix so pl nu wd td mk mo tx P D ea pa co S Cc V ba)
abbrev csX14_quarrel_n : q_S := (3, 14, 1, 3, 0, 0, fdX14_quarrel_n, spX14_quarrel_n)
def EX14_quarrel_n : q_E := (tX14_quarrel, [], 3, flX14, [(365, csX14_refused), (207, csX14_in), (397, csX14_done)], [], [], [], [], [], 1, 0, 0, (some .int), [], [], 0, 0)
theorem okX14_quarrel_n (l : Launch) : q_Eok l RX14 cX14_quarrel EX14_quarrel_n := ⟨tX14_quarrel_ok, flX14_ok, List.forall_mem_cons.mpr ⟨(coX14_365 l), List.forall_mem_cons.mpr ⟨(coX14_207 l), List.forall_mem_cons.mpr ⟨(coX14_397 l), q_nil⟩⟩⟩, q_nil, q_nil, q_nil, q_nil, q_nil, (fun h => absurd h (by decide))⟩
set_option maxRecDepth 100000 in
set_option maxHeartbeats 4000000 in
theorem ctX14_quarrel_n (l : Launch) : q_CT l yX14_quarrel (.code yX14_quarrel cX14_quarrel 3 (some .int)) 1 0 0 spX14_quarrel_n := by
  refine q_ct_of EX14_quarrel_n (by decide +kernel) (okX14_quarrel_n l) rfl rfl rfl rfl rfl q_nil (fun ci h => by cases h) rfl ?_
  intro a w K h
  obtain ⟨fr, th, tr, wh, fa, ta, sz, ix, so, pl, nu, wd, td, mk, mo, tx, P, D, ea, pa, co, S, Cc, V, ba, x, y, rfl, rfl, hfr, hK⟩ := h
  rcases hfr with rfl | rfl
  all_goals
    refine ⟨Nat.le_of_ble_eq_true rfl, fun C hC => hC _ _ _ _ _ _ ?_⟩
    exact ⟨_, _, _, _, _, _, _, _, _, _, _, _, _, _, _, _, _, _, _, _, _, _, _, _, rfl, rfl, hK⟩
abbrev fdX14_signed_n : List (Nat ⊕ (Nat × Nat)) := [.inl 0, .inr (0, 7), .inr (0, 17), .inr (0, 18), .inr (0, 19), .inr (0, 20), .inr (0, 21), .inr (0, 22), .inr (0, 23), .inr (0, 26), .inr (0, 27), .inr (0, 28), .inr (0, 31), .inr (0, 32), .inr (0, 33), .inr (0, 34), .inr (0, 36), .inr (0, 37), .inr (0, 38), .inr (0, 39), .inr (0, 40), .inr (0, 41), .inr (0, 43), .inr (0, 44), .inr (0, 45), .inr (0, 46), .inr (0, 47), .inr (0, 48), .inr (0, 50), .inr (0, 51), .inr (0, 52)]
def spX14_signed_n : q_P := fun a w K => ∃ (fr : Value) (th : Int32) (tr : Int32) (wh : Int32) (fa : Int32) (ta : Nat) (sz : Int32) (ix : Int32) (so : Int32) (pl : Int32) (nu : Int32) (wd : Int64) (td : Int32) (mk : Int32) (mo : Int32) (tx : Nat → Int32) (P : PT) (D : DT) (ea : Nat → Int32) (pa : Nat → Int32) (co : Nat → Int32) (S : ST) (Cc : CT) (V : VT) (ba : Nat → Int32), w = (modelN 0 fr (tk 0 6) th tr wh fa ta sz ix so pl nu wd td mk mo tx P D ea pa co S Cc V ba) ∧ a = [.ref 0] ∧ (fr = .null ∨ fr = tk 0 5) ∧ K (.inl (some (.int (-1)))) (modelN 0 fr (tk 0 6) (0) (1) (-1) fa ta sz ix so pl nu wd td mk mo tx P D ea pa co S Cc V ba)
abbrev csX14_signed_n : q_S := (1, 14, 2, 1, 0, 0, fdX14_signed_n, spX14_signed_n)
def EX14_signed_n : q_E := (tX14_signed, [], 1, flX14, [(365, csX14_refused), (497, csX14_best), (397, csX14_done)], [], [], [], [], [], 2, 0, 0, (some .int), [], [], 0, 0)
theorem okX14_signed_n (l : Launch) : q_Eok l RX14 cX14_signed EX14_signed_n := ⟨tX14_signed_ok, flX14_ok, List.forall_mem_cons.mpr ⟨(coX14_365 l), List.forall_mem_cons.mpr ⟨(coX14_497 l), List.forall_mem_cons.mpr ⟨(coX14_397 l), q_nil⟩⟩⟩, q_nil, q_nil, q_nil, q_nil, q_nil, (fun h => absurd h (by decide))⟩
set_option maxRecDepth 100000 in
set_option maxHeartbeats 4000000 in
theorem ctX14_signed_n (l : Launch) : q_CT l yX14_signed (.code yX14_signed cX14_signed 1 (some .int)) 2 0 0 spX14_signed_n := by
  refine q_ct_of EX14_signed_n (by decide +kernel) (okX14_signed_n l) rfl rfl rfl rfl rfl q_nil (fun ci h => by cases h) rfl ?_
  intro a w K h
  obtain ⟨fr, th, tr, wh, fa, ta, sz, ix, so, pl, nu, wd, td, mk, mo, tx, P, D, ea, pa, co, S, Cc, V, ba, rfl, rfl, hfr, hK⟩ := h
  rcases hfr with rfl | rfl
  all_goals
    refine ⟨Nat.le_of_ble_eq_true rfl, fun C hC => hC _ _ _ _ _ _ ?_⟩
    exact ⟨_, _, _, _, _, _, _, _, _, _, _, _, _, _, _, _, _, _, _, _, _, _, _, _, rfl, rfl, hK⟩
abbrev fdX14_signs_n : List (Nat ⊕ (Nat × Nat)) := [.inl 0, .inr (0, 7), .inr (0, 17), .inr (0, 18), .inr (0, 19), .inr (0, 20), .inr (0, 21), .inr (0, 22), .inr (0, 23), .inr (0, 26), .inr (0, 27), .inr (0, 28), .inr (0, 31), .inr (0, 32), .inr (0, 33), .inr (0, 34), .inr (0, 36), .inr (0, 37), .inr (0, 38), .inr (0, 39), .inr (0, 40), .inr (0, 41), .inr (0, 43), .inr (0, 44), .inr (0, 45), .inr (0, 46), .inr (0, 47), .inr (0, 48), .inr (0, 50), .inr (0, 51), .inr (0, 52)]
def spX14_signs_n : q_P := fun a w K => ∃ (fr : Value) (th : Int32) (tr : Int32) (wh : Int32) (fa : Int32) (ta : Nat) (sz : Int32) (ix : Int32) (so : Int32) (pl : Int32) (nu : Int32) (wd : Int64) (td : Int32) (mk : Int32) (mo : Int32) (tx : Nat → Int32) (P : PT) (D : DT) (ea : Nat → Int32) (pa : Nat → Int32) (co : Nat → Int32) (S : ST) (Cc : CT) (V : VT) (ba : Nat → Int32) (t : Int32), w = (modelN 0 fr (tk 0 6) th tr wh fa ta sz ix so pl nu wd td mk mo tx P D ea pa co S Cc V ba) ∧ a = [.ref 0, .int t] ∧ (fr = .null ∨ fr = tk 0 5) ∧ K (.inl (some (.int (-1)))) (modelN 0 fr (tk 0 6) (0) (1) (-1) fa ta sz ix so pl nu wd td mk mo tx P D ea pa co S Cc V ba)
abbrev csX14_signs_n : q_S := (2, 14, 2, 3, 0, 0, fdX14_signs_n, spX14_signs_n)
def EX14_signs_n : q_E := (tX14_signs, [], 3, flX14, [(207, csX14_in), (365, csX14_refused), (497, csX14_best), (397, csX14_done)], [], [], [], [], [], 2, 0, 0, (some .int), [], [], 0, 0)
theorem okX14_signs_n (l : Launch) : q_Eok l RX14 cX14_signs EX14_signs_n := ⟨tX14_signs_ok, flX14_ok, List.forall_mem_cons.mpr ⟨(coX14_207 l), List.forall_mem_cons.mpr ⟨(coX14_365 l), List.forall_mem_cons.mpr ⟨(coX14_497 l), List.forall_mem_cons.mpr ⟨(coX14_397 l), q_nil⟩⟩⟩⟩, q_nil, q_nil, q_nil, q_nil, q_nil, (fun h => absurd h (by decide))⟩
set_option maxRecDepth 100000 in
set_option maxHeartbeats 4000000 in
theorem ctX14_signs_n (l : Launch) : q_CT l yX14_signs (.code yX14_signs cX14_signs 3 (some .int)) 2 0 0 spX14_signs_n := by
  refine q_ct_of EX14_signs_n (by decide +kernel) (okX14_signs_n l) rfl rfl rfl rfl rfl q_nil (fun ci h => by cases h) rfl ?_
  intro a w K h
  obtain ⟨fr, th, tr, wh, fa, ta, sz, ix, so, pl, nu, wd, td, mk, mo, tx, P, D, ea, pa, co, S, Cc, V, ba, t, rfl, rfl, hfr, hK⟩ := h
  rcases hfr with rfl | rfl
  all_goals
    refine ⟨Nat.le_of_ble_eq_true rfl, fun C hC => hC _ _ _ _ _ _ ?_⟩
    exact ⟨_, _, _, _, _, _, _, _, _, _, _, _, _, _, _, _, _, _, _, _, _, _, _, _, rfl, rfl, hK⟩
abbrev fdX14_fault_n : List (Nat ⊕ (Nat × Nat)) := [.inl 0, .inr (0, 7), .inr (0, 17), .inr (0, 18), .inr (0, 19), .inr (0, 20), .inr (0, 21), .inr (0, 22), .inr (0, 23), .inr (0, 26), .inr (0, 27), .inr (0, 28), .inr (0, 31), .inr (0, 32), .inr (0, 33), .inr (0, 34), .inr (0, 36), .inr (0, 37), .inr (0, 38), .inr (0, 39), .inr (0, 40), .inr (0, 41), .inr (0, 43), .inr (0, 44), .inr (0, 45), .inr (0, 46), .inr (0, 47), .inr (0, 48), .inr (0, 50), .inr (0, 51), .inr (0, 52)]
def spX14_fault_n : q_P := fun a w K => ∃ (fr : Value) (th : Int32) (tr : Int32) (wh : Int32) (fa : Int32) (ta : Nat) (sz : Int32) (ix : Int32) (so : Int32) (pl : Int32) (nu : Int32) (wd : Int64) (td : Int32) (mk : Int32) (mo : Int32) (tx : Nat → Int32) (P : PT) (D : DT) (ea : Nat → Int32) (pa : Nat → Int32) (co : Nat → Int32) (S : ST) (Cc : CT) (V : VT) (ba : Nat → Int32), w = (modelN 0 fr (tk 0 6) th tr wh fa ta sz ix so pl nu wd td mk mo tx P D ea pa co S Cc V ba) ∧ a = [.ref 0] ∧ (fr = .null ∨ fr = tk 0 5) ∧ K (.inl (some (.int fa))) (modelN 0 fr (tk 0 6) (0) tr wh fa ta sz ix so pl nu wd td mk mo tx P D ea pa co S Cc V ba)
abbrev csX14_fault_n : q_S := (1, 14, 0, 1, 0, 0, fdX14_fault_n, spX14_fault_n)
def EX14_fault_n : q_E := (tX14_fault, [], 1, flX14, [], [], [], [], [], [], 0, 0, 0, (some .int), [], [], 0, 0)
theorem okX14_fault_n (l : Launch) : q_Eok l RX14 cX14_fault EX14_fault_n := ⟨tX14_fault_ok, flX14_ok, q_nil, q_nil, q_nil, q_nil, q_nil, q_nil, (fun h => absurd h (by decide))⟩
set_option maxRecDepth 100000 in
set_option maxHeartbeats 4000000 in
theorem ctX14_fault_n (l : Launch) : q_CT l yX14_fault (.code yX14_fault cX14_fault 1 (some .int)) 0 0 0 spX14_fault_n := by
  refine q_ct_of EX14_fault_n (by decide +kernel) (okX14_fault_n l) rfl rfl rfl rfl rfl q_nil (fun ci h => by cases h) rfl ?_
  intro a w K h
  obtain ⟨fr, th, tr, wh, fa, ta, sz, ix, so, pl, nu, wd, td, mk, mo, tx, P, D, ea, pa, co, S, Cc, V, ba, rfl, rfl, hfr, hK⟩ := h
  rcases hfr with rfl | rfl
  all_goals
    refine ⟨Nat.le_of_ble_eq_true rfl, fun C hC => hC _ _ _ _ _ _ ?_⟩
    exact hK
abbrev fdX14_where_n : List (Nat ⊕ (Nat × Nat)) := [.inl 0, .inr (0, 7), .inr (0, 17), .inr (0, 18), .inr (0, 19), .inr (0, 20), .inr (0, 21), .inr (0, 22), .inr (0, 23), .inr (0, 26), .inr (0, 27), .inr (0, 28), .inr (0, 31), .inr (0, 32), .inr (0, 33), .inr (0, 34), .inr (0, 36), .inr (0, 37), .inr (0, 38), .inr (0, 39), .inr (0, 40), .inr (0, 41), .inr (0, 43), .inr (0, 44), .inr (0, 45), .inr (0, 46), .inr (0, 47), .inr (0, 48), .inr (0, 50), .inr (0, 51), .inr (0, 52)]
def spX14_where_n : q_P := fun a w K => ∃ (fr : Value) (th : Int32) (tr : Int32) (wh : Int32) (fa : Int32) (ta : Nat) (sz : Int32) (ix : Int32) (so : Int32) (pl : Int32) (nu : Int32) (wd : Int64) (td : Int32) (mk : Int32) (mo : Int32) (tx : Nat → Int32) (P : PT) (D : DT) (ea : Nat → Int32) (pa : Nat → Int32) (co : Nat → Int32) (S : ST) (Cc : CT) (V : VT) (ba : Nat → Int32), w = (modelN 0 fr (tk 0 6) th tr wh fa ta sz ix so pl nu wd td mk mo tx P D ea pa co S Cc V ba) ∧ a = [.ref 0] ∧ (fr = .null ∨ fr = tk 0 5) ∧ K (.inl (some (.int wh))) (modelN 0 fr (tk 0 6) (0) tr wh fa ta sz ix so pl nu wd td mk mo tx P D ea pa co S Cc V ba)
abbrev csX14_where_n : q_S := (1, 14, 0, 1, 0, 0, fdX14_where_n, spX14_where_n)
def EX14_where_n : q_E := (tX14_where, [], 1, flX14, [], [], [], [], [], [], 0, 0, 0, (some .int), [], [], 0, 0)
theorem okX14_where_n (l : Launch) : q_Eok l RX14 cX14_where EX14_where_n := ⟨tX14_where_ok, flX14_ok, q_nil, q_nil, q_nil, q_nil, q_nil, q_nil, (fun h => absurd h (by decide))⟩
set_option maxRecDepth 100000 in
set_option maxHeartbeats 4000000 in
theorem ctX14_where_n (l : Launch) : q_CT l yX14_where (.code yX14_where cX14_where 1 (some .int)) 0 0 0 spX14_where_n := by
  refine q_ct_of EX14_where_n (by decide +kernel) (okX14_where_n l) rfl rfl rfl rfl rfl q_nil (fun ci h => by cases h) rfl ?_
  intro a w K h
  obtain ⟨fr, th, tr, wh, fa, ta, sz, ix, so, pl, nu, wd, td, mk, mo, tx, P, D, ea, pa, co, S, Cc, V, ba, rfl, rfl, hfr, hK⟩ := h
  rcases hfr with rfl | rfl
  all_goals
    refine ⟨Nat.le_of_ble_eq_true rfl, fun C hC => hC _ _ _ _ _ _ ?_⟩
    exact hK
abbrev fdX14_trouble_n : List (Nat ⊕ (Nat × Nat)) := [.inl 0, .inr (0, 7), .inr (0, 17), .inr (0, 18), .inr (0, 19), .inr (0, 20), .inr (0, 21), .inr (0, 22), .inr (0, 23), .inr (0, 26), .inr (0, 27), .inr (0, 28), .inr (0, 31), .inr (0, 32), .inr (0, 33), .inr (0, 34), .inr (0, 36), .inr (0, 37), .inr (0, 38), .inr (0, 39), .inr (0, 40), .inr (0, 41), .inr (0, 43), .inr (0, 44), .inr (0, 45), .inr (0, 46), .inr (0, 47), .inr (0, 48), .inr (0, 50), .inr (0, 51), .inr (0, 52)]
def spX14_trouble_n : q_P := fun a w K => ∃ (fr : Value) (th : Int32) (tr : Int32) (wh : Int32) (fa : Int32) (ta : Nat) (sz : Int32) (ix : Int32) (so : Int32) (pl : Int32) (nu : Int32) (wd : Int64) (td : Int32) (mk : Int32) (mo : Int32) (tx : Nat → Int32) (P : PT) (D : DT) (ea : Nat → Int32) (pa : Nat → Int32) (co : Nat → Int32) (S : ST) (Cc : CT) (V : VT) (ba : Nat → Int32), w = (modelN 0 fr (tk 0 6) th tr wh fa ta sz ix so pl nu wd td mk mo tx P D ea pa co S Cc V ba) ∧ a = [.ref 0] ∧ (fr = .null ∨ fr = tk 0 5) ∧ K (.inl (some (.int tr))) (modelN 0 fr (tk 0 6) (0) tr wh fa ta sz ix so pl nu wd td mk mo tx P D ea pa co S Cc V ba)
abbrev csX14_trouble_n : q_S := (1, 14, 0, 1, 0, 0, fdX14_trouble_n, spX14_trouble_n)
def EX14_trouble_n : q_E := (tX14_trouble, [], 1, flX14, [], [], [], [], [], [], 0, 0, 0, (some .int), [], [], 0, 0)
theorem okX14_trouble_n (l : Launch) : q_Eok l RX14 cX14_trouble EX14_trouble_n := ⟨tX14_trouble_ok, flX14_ok, q_nil, q_nil, q_nil, q_nil, q_nil, q_nil, (fun h => absurd h (by decide))⟩
set_option maxRecDepth 100000 in
set_option maxHeartbeats 4000000 in
theorem ctX14_trouble_n (l : Launch) : q_CT l yX14_trouble (.code yX14_trouble cX14_trouble 1 (some .int)) 0 0 0 spX14_trouble_n := by
  refine q_ct_of EX14_trouble_n (by decide +kernel) (okX14_trouble_n l) rfl rfl rfl rfl rfl q_nil (fun ci h => by cases h) rfl ?_
  intro a w K h
  obtain ⟨fr, th, tr, wh, fa, ta, sz, ix, so, pl, nu, wd, td, mk, mo, tx, P, D, ea, pa, co, S, Cc, V, ba, rfl, rfl, hfr, hK⟩ := h
  rcases hfr with rfl | rfl
  all_goals
    refine ⟨Nat.le_of_ble_eq_true rfl, fun C hC => hC _ _ _ _ _ _ ?_⟩
    exact hK
abbrev fdX14_bought_n : List (Nat ⊕ (Nat × Nat)) := [.inl 0, .inr (0, 7), .inr (0, 17), .inr (0, 18), .inr (0, 19), .inr (0, 20), .inr (0, 21), .inr (0, 22), .inr (0, 23), .inr (0, 26), .inr (0, 27), .inr (0, 28), .inr (0, 31), .inr (0, 32), .inr (0, 33), .inr (0, 34), .inr (0, 36), .inr (0, 37), .inr (0, 38), .inr (0, 39), .inr (0, 40), .inr (0, 41), .inr (0, 43), .inr (0, 44), .inr (0, 45), .inr (0, 46), .inr (0, 47), .inr (0, 48), .inr (0, 50), .inr (0, 51), .inr (0, 52)]
def spX14_bought_n : q_P := fun a w K => ∃ (fr : Value) (th : Int32) (tr : Int32) (wh : Int32) (fa : Int32) (ta : Nat) (sz : Int32) (ix : Int32) (so : Int32) (pl : Int32) (nu : Int32) (wd : Int64) (td : Int32) (mk : Int32) (mo : Int32) (tx : Nat → Int32) (P : PT) (D : DT) (ea : Nat → Int32) (pa : Nat → Int32) (co : Nat → Int32) (S : ST) (Cc : CT) (V : VT) (ba : Nat → Int32), w = (modelN 0 fr (tk 0 6) th tr wh fa ta sz ix so pl nu wd td mk mo tx P D ea pa co S Cc V ba) ∧ a = [.ref 0] ∧ (fr = .null ∨ fr = tk 0 5) ∧ K (.inl (some (.int S.2.2.2.2.2.2))) (modelN 0 fr (tk 0 6) (0) tr wh fa ta sz ix so pl nu wd td mk mo tx P D ea pa co S Cc V ba)
abbrev csX14_bought_n : q_S := (1, 14, 0, 1, 0, 0, fdX14_bought_n, spX14_bought_n)
def EX14_bought_n : q_E := (tX14_bought, [], 1, flX14, [], [], [], [], [], [], 0, 0, 0, (some .int), [], [], 0, 0)
theorem okX14_bought_n (l : Launch) : q_Eok l RX14 cX14_bought EX14_bought_n := ⟨tX14_bought_ok, flX14_ok, q_nil, q_nil, q_nil, q_nil, q_nil, q_nil, (fun h => absurd h (by decide))⟩
set_option maxRecDepth 100000 in
set_option maxHeartbeats 4000000 in
theorem ctX14_bought_n (l : Launch) : q_CT l yX14_bought (.code yX14_bought cX14_bought 1 (some .int)) 0 0 0 spX14_bought_n := by
  refine q_ct_of EX14_bought_n (by decide +kernel) (okX14_bought_n l) rfl rfl rfl rfl rfl q_nil (fun ci h => by cases h) rfl ?_
  intro a w K h
  obtain ⟨fr, th, tr, wh, fa, ta, sz, ix, so, pl, nu, wd, td, mk, mo, tx, P, D, ea, pa, co, S, Cc, V, ba, rfl, rfl, hfr, hK⟩ := h
  rcases hfr with rfl | rfl
  all_goals
    refine ⟨Nat.le_of_ble_eq_true rfl, fun C hC => hC _ _ _ _ _ _ ?_⟩
    exact hK
abbrev fdX14_thrown_n : List (Nat ⊕ (Nat × Nat)) := [.inl 0, .inr (0, 7), .inr (0, 17), .inr (0, 18), .inr (0, 19), .inr (0, 20), .inr (0, 21), .inr (0, 22), .inr (0, 23), .inr (0, 26), .inr (0, 27), .inr (0, 28), .inr (0, 31), .inr (0, 32), .inr (0, 33), .inr (0, 34), .inr (0, 36), .inr (0, 37), .inr (0, 38), .inr (0, 39), .inr (0, 40), .inr (0, 41), .inr (0, 43), .inr (0, 44), .inr (0, 45), .inr (0, 46), .inr (0, 47), .inr (0, 48), .inr (0, 50), .inr (0, 51), .inr (0, 52)]
def spX14_thrown_n : q_P := fun a w K => ∃ (fr : Value) (th : Int32) (tr : Int32) (wh : Int32) (fa : Int32) (ta : Nat) (sz : Int32) (ix : Int32) (so : Int32) (pl : Int32) (nu : Int32) (wd : Int64) (td : Int32) (mk : Int32) (mo : Int32) (tx : Nat → Int32) (P : PT) (D : DT) (ea : Nat → Int32) (pa : Nat → Int32) (co : Nat → Int32) (S : ST) (Cc : CT) (V : VT) (ba : Nat → Int32), w = (modelN 0 fr (tk 0 6) th tr wh fa ta sz ix so pl nu wd td mk mo tx P D ea pa co S Cc V ba) ∧ a = [.ref 0] ∧ (fr = .null ∨ fr = tk 0 5) ∧ K (.inl (some (.int th))) (modelN 0 fr (tk 0 6) th tr wh fa ta sz ix so pl nu wd td mk mo tx P D ea pa co S Cc V ba)
abbrev csX14_thrown_n : q_S := (1, 14, 0, 1, 0, 0, fdX14_thrown_n, spX14_thrown_n)
def EX14_thrown_n : q_E := (tX14_thrown, [], 1, flX14, [], [], [], [], [], [], 0, 0, 0, (some .int), [], [], 0, 0)
theorem okX14_thrown_n (l : Launch) : q_Eok l RX14 cX14_thrown EX14_thrown_n := ⟨tX14_thrown_ok, flX14_ok, q_nil, q_nil, q_nil, q_nil, q_nil, q_nil, (fun h => absurd h (by decide))⟩
set_option maxRecDepth 100000 in
set_option maxHeartbeats 4000000 in
theorem ctX14_thrown_n (l : Launch) : q_CT l yX14_thrown (.code yX14_thrown cX14_thrown 1 (some .int)) 0 0 0 spX14_thrown_n := by
  refine q_ct_of EX14_thrown_n (by decide +kernel) (okX14_thrown_n l) rfl rfl rfl rfl rfl q_nil (fun ci h => by cases h) rfl ?_
  intro a w K h
  obtain ⟨fr, th, tr, wh, fa, ta, sz, ix, so, pl, nu, wd, td, mk, mo, tx, P, D, ea, pa, co, S, Cc, V, ba, rfl, rfl, hfr, hK⟩ := h
  rcases hfr with rfl | rfl
  all_goals
    refine ⟨Nat.le_of_ble_eq_true rfl, fun C hC => hC _ _ _ _ _ _ ?_⟩
    exact hK
abbrev fdX14_burn_n : List (Nat ⊕ (Nat × Nat)) := [.inl 0, .inr (0, 7), .inr (0, 17), .inr (0, 18), .inr (0, 19), .inr (0, 20), .inr (0, 21), .inr (0, 22), .inr (0, 23), .inr (0, 26), .inr (0, 27), .inr (0, 28), .inr (0, 31), .inr (0, 32), .inr (0, 33), .inr (0, 34), .inr (0, 36), .inr (0, 37), .inr (0, 38), .inr (0, 39), .inr (0, 40), .inr (0, 41), .inr (0, 43), .inr (0, 44), .inr (0, 45), .inr (0, 46), .inr (0, 47), .inr (0, 48), .inr (0, 50), .inr (0, 51), .inr (0, 52)]
def spX14_burn_n : q_P := fun a w K => ∃ (fr : Value) (th : Int32) (tr : Int32) (wh : Int32) (fa : Int32) (ta : Nat) (sz : Int32) (ix : Int32) (so : Int32) (pl : Int32) (nu : Int32) (wd : Int64) (td : Int32) (mk : Int32) (mo : Int32) (tx : Nat → Int32) (P : PT) (D : DT) (ea : Nat → Int32) (pa : Nat → Int32) (co : Nat → Int32) (S : ST) (Cc : CT) (V : VT) (ba : Nat → Int32) (i u : Int32), w = (modelN 0 fr (tk 0 6) th tr wh fa ta sz ix so pl nu wd td mk mo tx P D ea pa co S Cc V ba) ∧ a = [.ref 0, .int i, .int u] ∧ (fr = .null ∨ fr = tk 0 5) ∧ D.2.2.2 = 0 ∧ K (.inl (some (.long (-1)))) (modelN 0 fr (tk 0 6) (0) (1) (-1) fa ta sz ix so pl nu wd td mk mo tx P D ea pa co S Cc V ba)
abbrev csX14_burn_n : q_S := (3, 14, 1, 3, 0, 0, fdX14_burn_n, spX14_burn_n)
def EX14_burn_n : q_E := (tX14_burn, [], 3, flX14, [(365, csX14_refused), (207, csX14_in), (397, csX14_done)], [], [], [], [], [], 1, 0, 0, (some .long), [], [], 0, 0)
theorem okX14_burn_n (l : Launch) : q_Eok l RX14 cX14_burn EX14_burn_n := ⟨tX14_burn_ok, flX14_ok, List.forall_mem_cons.mpr ⟨(coX14_365 l), List.forall_mem_cons.mpr ⟨(coX14_207 l), List.forall_mem_cons.mpr ⟨(coX14_397 l), q_nil⟩⟩⟩, q_nil, q_nil, q_nil, q_nil, q_nil, (fun h => absurd h (by decide))⟩
set_option maxRecDepth 100000 in
set_option maxHeartbeats 4000000 in
theorem ctX14_burn_n (l : Launch) : q_CT l yX14_burn (.code yX14_burn cX14_burn 3 (some .long)) 1 0 0 spX14_burn_n := by
  refine q_ct_of EX14_burn_n (by decide +kernel) (okX14_burn_n l) rfl rfl rfl rfl rfl q_nil (fun ci h => by cases h) rfl ?_
  intro a w K h
  obtain ⟨fr, th, tr, wh, fa, ta, sz, ix, so, pl, nu, wd, td, mk, mo, tx, P, D, ea, pa, co, S, Cc, V, ba, i, u, rfl, rfl, hfr, h0, hK⟩ := h
  rcases hfr with rfl | rfl
  all_goals
    refine ⟨Nat.le_of_ble_eq_true rfl, fun C hC => hC _ _ _ _ _ _ ?_⟩
    exact And.intro (fun _ => ⟨_, _, _, _, _, _, _, _, _, _, _, _, _, _, _, _, _, _, _, _, _, _, _, _, rfl, rfl, hK⟩) (fun c => And.intro (fun c2 => absurd c2 (Int32.not_lt.mpr (dn0 h0 c))) (fun _ => ⟨_, _, _, _, _, _, _, _, _, _, _, _, _, _, _, _, _, _, _, _, _, _, _, _, rfl, rfl, hK⟩))
abbrev fdX14_rename_n : List (Nat ⊕ (Nat × Nat)) := [.inl 0, .inr (0, 7), .inr (0, 17), .inr (0, 18), .inr (0, 19), .inr (0, 20), .inr (0, 21), .inr (0, 22), .inr (0, 23), .inr (0, 26), .inr (0, 27), .inr (0, 28), .inr (0, 31), .inr (0, 32), .inr (0, 33), .inr (0, 34), .inr (0, 36), .inr (0, 37), .inr (0, 38), .inr (0, 39), .inr (0, 40), .inr (0, 41), .inr (0, 43), .inr (0, 44), .inr (0, 45), .inr (0, 46), .inr (0, 47), .inr (0, 48), .inr (0, 50), .inr (0, 51), .inr (0, 52)]
def spX14_rename_n : q_P := fun a w K => ∃ (fr : Value) (th : Int32) (tr : Int32) (wh : Int32) (fa : Int32) (ta : Nat) (sz : Int32) (ix : Int32) (so : Int32) (pl : Int32) (nu : Int32) (wd : Int64) (td : Int32) (mk : Int32) (mo : Int32) (tx : Nat → Int32) (P : PT) (D : DT) (ea : Nat → Int32) (pa : Nat → Int32) (co : Nat → Int32) (S : ST) (Cc : CT) (V : VT) (ba : Nat → Int32) (i p : Int32), w = (modelN 0 fr (tk 0 6) th tr wh fa ta sz ix so pl nu wd td mk mo tx P D ea pa co S Cc V ba) ∧ a = [.ref 0, .int i, .int p] ∧ (fr = .null ∨ fr = tk 0 5) ∧ D.2.2.2 = 0 ∧ K (.inl (some (.int 0))) (modelN 0 fr (tk 0 6) (0) (1) (-1) fa ta sz ix so pl nu wd td mk mo tx P D ea pa co S Cc V ba)
abbrev csX14_rename_n : q_S := (3, 14, 1, 3, 0, 0, fdX14_rename_n, spX14_rename_n)
def EX14_rename_n : q_E := (tX14_rename, [], 3, flX14, [(417, csX14_isPerson), (424, csX14_denied), (427, csX14_granted)], [], [], [], [], [], 1, 0, 0, (some .boolean), [], [], 0, 0)
theorem okX14_rename_n (l : Launch) : q_Eok l RX14 cX14_rename EX14_rename_n := ⟨tX14_rename_ok, flX14_ok, List.forall_mem_cons.mpr ⟨(coX14_417 l), List.forall_mem_cons.mpr ⟨(coX14_424 l), List.forall_mem_cons.mpr ⟨(coX14_427 l), q_nil⟩⟩⟩, q_nil, q_nil, q_nil, q_nil, q_nil, (fun h => absurd h (by decide))⟩
set_option maxRecDepth 100000 in
set_option maxHeartbeats 4000000 in
theorem ctX14_rename_n (l : Launch) : q_CT l yX14_rename (.code yX14_rename cX14_rename 3 (some .boolean)) 1 0 0 spX14_rename_n := by
  refine q_ct_of EX14_rename_n (by decide +kernel) (okX14_rename_n l) rfl rfl rfl rfl rfl q_nil (fun ci h => by cases h) rfl ?_
  intro a w K h
  obtain ⟨fr, th, tr, wh, fa, ta, sz, ix, so, pl, nu, wd, td, mk, mo, tx, P, D, ea, pa, co, S, Cc, V, ba, i, p, rfl, rfl, hfr, h0, hK⟩ := h
  rcases hfr with rfl | rfl
  all_goals
    refine ⟨Nat.le_of_ble_eq_true rfl, fun C hC => hC _ _ _ _ _ _ ?_⟩
    exact And.intro (fun _ => ⟨_, _, _, _, _, _, _, _, _, _, _, _, _, _, _, _, _, _, _, _, _, _, _, _, rfl, rfl, rfl, hK⟩) (fun c => And.intro (fun _ => ⟨_, _, _, _, _, _, _, _, _, _, _, _, _, _, _, _, _, _, _, _, _, _, _, _, rfl, rfl, rfl, hK⟩) (fun c2 => absurd (dn0 h0 c) c2))
abbrev fdX14_count_n : List (Nat ⊕ (Nat × Nat)) := [.inl 0, .inr (0, 7), .inr (0, 17), .inr (0, 18), .inr (0, 19), .inr (0, 20), .inr (0, 21), .inr (0, 22), .inr (0, 23), .inr (0, 26), .inr (0, 27), .inr (0, 28), .inr (0, 31), .inr (0, 32), .inr (0, 33), .inr (0, 34), .inr (0, 36), .inr (0, 37), .inr (0, 38), .inr (0, 39), .inr (0, 40), .inr (0, 41), .inr (0, 43), .inr (0, 44), .inr (0, 45), .inr (0, 46), .inr (0, 47), .inr (0, 48), .inr (0, 50), .inr (0, 51), .inr (0, 52)]
def spX14_count_n : q_P := fun a w K => ∃ (fr : Value) (th : Int32) (tr : Int32) (wh : Int32) (fa : Int32) (ta : Nat) (sz : Int32) (ix : Int32) (so : Int32) (pl : Int32) (nu : Int32) (wd : Int64) (td : Int32) (mk : Int32) (mo : Int32) (tx : Nat → Int32) (P : PT) (D : DT) (ea : Nat → Int32) (pa : Nat → Int32) (co : Nat → Int32) (S : ST) (Cc : CT) (V : VT) (ba : Nat → Int32) (x : Int32), w = (modelN 0 fr (tk 0 6) th tr wh fa ta sz ix so pl nu wd td mk mo tx P D ea pa co S Cc V ba) ∧ a = [.ref 0, .int x] ∧ (fr = .null ∨ fr = tk 0 5) ∧ K (.inl (some (.int (if x = 13 then nI ta else if inB x 0 12 = true then 0 else -1)))) (modelN 0 fr (tk 0 6) (0) tr wh fa ta sz ix so pl nu wd td mk mo tx P D ea pa co S Cc V ba)
abbrev csX14_count_n : q_S := (2, 14, 1, 2, 0, 0, fdX14_count_n, spX14_count_n)
def EX14_count_n : q_E := (tX14_count, [], 2, flX14, [(207, csX14_in)], [], [], [], [], [], 1, 0, 0, (some .int), [], [], 0, 0)
theorem okX14_count_n (l : Launch) : q_Eok l RX14 cX14_count EX14_count_n := ⟨tX14_count_ok, flX14_ok, List.forall_mem_cons.mpr ⟨(coX14_207 l), q_nil⟩, q_nil, q_nil, q_nil, q_nil, q_nil, (fun h => absurd h (by decide))⟩
set_option maxRecDepth 100000 in
set_option maxHeartbeats 4000000 in
theorem ctX14_count_n (l : Launch) : q_CT l yX14_count (.code yX14_count cX14_count 2 (some .int)) 1 0 0 spX14_count_n := by
  refine q_ct_of EX14_count_n (by decide +kernel) (okX14_count_n l) rfl rfl rfl rfl rfl q_nil (fun ci h => by cases h) rfl ?_
  intro a w K h
  obtain ⟨fr, th, tr, wh, fa, ta, sz, ix, so, pl, nu, wd, td, mk, mo, tx, P, D, ea, pa, co, S, Cc, V, ba, x, rfl, rfl, hfr, hK⟩ := h
  rcases hfr with rfl | rfl
  all_goals
    refine ⟨Nat.le_of_ble_eq_true rfl, fun C hC => hC _ _ _ _ _ _ ?_⟩
    refine And.intro (fun c => ⟨x, 0, 12, rfl, rfl, And.intro (fun c2 => ?_) (fun c2 => ?_)⟩) (fun c => ?_)
    · rw [if_neg c, if_pos (bI_n0.mp c2)] at hK; exact hK
    · rw [if_neg c, if_neg (by rw [bI_0.mp c2]; decide)] at hK; exact hK
    · rw [if_pos c] at hK; exact hK
