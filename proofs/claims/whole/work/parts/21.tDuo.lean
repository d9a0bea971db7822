/-! TREES of ApartGames$Duo: by program (wip/whole/gen_trees.py) -/
set_option maxRecDepth 20000 in
set_option maxHeartbeats 1000000 in
theorem T_Duo_answersBy_0 {d : Nat} {kd : ZK} {m : ZM} {q : Int → ZM → Prop} {v0 v1 : Int} (h : ((v1 ≠ 0 → (zobj kd v0 0 ∧ q (m v0 1) m)) ∧ (¬ v1 ≠ 0 → (zobj kd v0 0 ∧ q (m v0 0) m)))) : Ev (d + 1) M_Duo_answersBy 0 0 0 [(2, v0), (0, v1)] [] kd m (zqR kd q) := by
  refine EvX.blk (pc' := 1) [(.iload_n 1, 0, 0)] (by decide +kernel) trivial ?_
  show Ev (d + 1) M_Duo_answersBy 0 0 1 [(2, v0), (0, v1)] [(0, v1)] kd m (zqR kd q)
  refine EvX.if_ne (off := 10) (tgt := 11) (by decide +kernel) (by decide) (fun hc => ?_) (fun hc => ?_)
  · have h := h.1 hc
    obtain ⟨o1, h⟩ := h
    refine EvX.blk (pc' := 15) [(.aload_n 0, 0, 0), (.getfield 15, 0, 1)] (by decide +kernel) ⟨g_Duo_15, trivial⟩ ⟨o1, ?_⟩
    show Ev (d + 1) M_Duo_answersBy 0 0 15 [(2, v0), (0, v1)] [(2, m v0 1)] kd m (zqR kd q)
    exact EvX.ret (r := (2, m v0 1)) (by decide +kernel) rfl ⟨_, rfl, rfl, h⟩
  · have h := h.2 hc
    obtain ⟨o1, h⟩ := h
    refine EvX.blk (pc' := 8) [(.aload_n 0, 0, 0), (.getfield 9, 0, 0)] (by decide +kernel) ⟨g_Duo_9, trivial⟩ ⟨o1, ?_⟩
    show Ev (d + 1) M_Duo_answersBy 0 0 8 [(2, v0), (0, v1)] [(2, m v0 0)] kd m (zqR kd q)
    refine EvX.goto (off := 7) (tgt := 15) (by decide +kernel) (by decide) ?_
    exact EvX.ret (r := (2, m v0 0)) (by decide +kernel) rfl ⟨_, rfl, rfl, h⟩
theorem S_Duo_answersBy {d : Nat} {kd : ZK} {m : ZM} {q : Int → ZM → Prop} {v0 v1 : Int} (h : ((v1 ≠ 0 → (zobj kd v0 0 ∧ q (m v0 1) m)) ∧ (¬ v1 ≠ 0 → (zobj kd v0 0 ∧ q (m v0 0) m)))) : CtR (d + 1) M_Duo_answersBy [(2, v0), (0, v1)] kd m q :=
  Ct.start k_Duo_answersBy (Nat.le_of_ble_eq_true rfl) ⟨4, Or.inr (Or.inr (Or.inr (Or.inr (Or.inl ⟨rfl, _, rfl⟩))))⟩ (T_Duo_answersBy_0 h)
set_option maxRecDepth 20000 in
set_option maxHeartbeats 1000000 in
theorem T_Duo_takeBoth_0 {d : Nat} {kd : ZK} {m : ZM} {q : Int → ZM → Prop} {v0 v1 v2 v3 : Int} (h : (zobj kd v0 0 ∧ ∃ q1, CtI d M_Duo_take [(2, v0), (2, v1), (0, 0), (0, v2)] kd m q1 ∧ ∀ x2 m3, q1 x2 m3 → ((x2 = 0 → q 0 m3) ∧ (¬ x2 = 0 → (zobj kd v0 0 ∧ ∃ q4, CtI d M_Duo_take [(2, v0), (2, v1), (0, 1), (0, v3)] kd m3 q4 ∧ ∀ x5 m6, q4 x5 m6 → ((x5 = 0 → q 0 m6) ∧ (¬ x5 = 0 → q 1 m6))))))) : Ev (d + 1) M_Duo_takeBoth 0 0 0 [(2, v0), (2, v1), (0, v2), (0, v3)] [] kd m (zqI kd q) := by
  refine EvX.blk (pc' := 4) [(.aload_n 0, 0, 0), (.aload_n 1, 0, 0), (.iconst 0, 0, 0), (.iload_n 2, 0, 0)] (by decide +kernel) trivial ?_
  show Ev (d + 1) M_Duo_takeBoth 0 0 4 [(2, v0), (2, v1), (0, v2), (0, v3)] [(0, v2), (0, 0), (2, v1), (2, v0)] kd m (zqI kd q)
  obtain ⟨ov, h⟩ := h
  obtain ⟨q1, hq, h⟩ := h
  refine EvX.callV (c := 0) (mc := 0) (ms := 0) (as := [(2, v1), (0, 0), (0, v2)]) (st := []) (by decide +kernel) l_Duo_21 k_Duo_take v_Duo_take a_Duo_take (by decide) (Nat.le_of_ble_eq_true rfl) rfl ov hq (fun r kd1 m3 hr => ?_)
  obtain ⟨x2, rfl, hk, hr⟩ := hr
  subst kd1
  have h := h x2 m3 hr
  show Ev (d + 1) M_Duo_takeBoth 0 0 7 [(2, v0), (2, v1), (0, v2), (0, v3)] [(0, x2)] kd m3 (zqI kd q)
  refine EvX.if_eq (off := 17) (tgt := 24) (by decide +kernel) (by decide) (fun hc => ?_) (fun hc => ?_)
  · have h := h.1 hc
    refine EvX.blk (pc' := 25) [(.iconst 0, 0, 0)] (by decide +kernel) trivial ?_
    show Ev (d + 1) M_Duo_takeBoth 0 0 25 [(2, v0), (2, v1), (0, v2), (0, v3)] [(0, 0)] kd m3 (zqI kd q)
    exact EvX.ret (r := (0, 0)) (by decide +kernel) ⟨rfl, by decide, by decide⟩ ⟨_, rfl, rfl, h⟩
  · have h := h.2 hc
    refine EvX.blk (pc' := 14) [(.aload_n 0, 0, 0), (.aload_n 1, 0, 0), (.iconst 1, 0, 0), (.iload_n 3, 0, 0)] (by decide +kernel) trivial ?_
    show Ev (d + 1) M_Duo_takeBoth 0 0 14 [(2, v0), (2, v1), (0, v2), (0, v3)] [(0, v3), (0, 1), (2, v1), (2, v0)] kd m3 (zqI kd q)
    obtain ⟨ov, h⟩ := h
    obtain ⟨q4, hq, h⟩ := h
    refine EvX.callV (c := 0) (mc := 0) (ms := 0) (as := [(2, v1), (0, 1), (0, v3)]) (st := []) (by decide +kernel) l_Duo_21 k_Duo_take v_Duo_take a_Duo_take (by decide) (Nat.le_of_ble_eq_true rfl) rfl ov hq (fun r kd1 m6 hr => ?_)
    obtain ⟨x5, rfl, hk, hr⟩ := hr
    subst kd1
    have h := h x5 m6 hr
    show Ev (d + 1) M_Duo_takeBoth 0 0 17 [(2, v0), (2, v1), (0, v2), (0, v3)] [(0, x5)] kd m6 (zqI kd q)
    refine EvX.if_eq (off := 7) (tgt := 24) (by decide +kernel) (by decide) (fun hc => ?_) (fun hc => ?_)
    · have h := h.1 hc
      refine EvX.blk (pc' := 25) [(.iconst 0, 0, 0)] (by decide +kernel) trivial ?_
      show Ev (d + 1) M_Duo_takeBoth 0 0 25 [(2, v0), (2, v1), (0, v2), (0, v3)] [(0, 0)] kd m6 (zqI kd q)
      exact EvX.ret (r := (0, 0)) (by decide +kernel) ⟨rfl, by decide, by decide⟩ ⟨_, rfl, rfl, h⟩
    · have h := h.2 hc
      refine EvX.blk (pc' := 21) [(.iconst 1, 0, 0)] (by decide +kernel) trivial ?_
      show Ev (d + 1) M_Duo_takeBoth 0 0 21 [(2, v0), (2, v1), (0, v2), (0, v3)] [(0, 1)] kd m6 (zqI kd q)
      refine EvX.goto (off := 4) (tgt := 25) (by decide +kernel) (by decide) ?_
      exact EvX.ret (r := (0, 1)) (by decide +kernel) ⟨rfl, by decide, by decide⟩ ⟨_, rfl, rfl, h⟩
theorem S_Duo_takeBoth {d : Nat} {kd : ZK} {m : ZM} {q : Int → ZM → Prop} {v0 v1 v2 v3 : Int} (h : (zobj kd v0 0 ∧ ∃ q1, CtI d M_Duo_take [(2, v0), (2, v1), (0, 0), (0, v2)] kd m q1 ∧ ∀ x2 m3, q1 x2 m3 → ((x2 = 0 → q 0 m3) ∧ (¬ x2 = 0 → (zobj kd v0 0 ∧ ∃ q4, CtI d M_Duo_take [(2, v0), (2, v1), (0, 1), (0, v3)] kd m3 q4 ∧ ∀ x5 m6, q4 x5 m6 → ((x5 = 0 → q 0 m6) ∧ (¬ x5 = 0 → q 1 m6))))))) : CtI (d + 1) M_Duo_takeBoth [(2, v0), (2, v1), (0, v2), (0, v3)] kd m q :=
  Ct.start k_Duo_takeBoth (Nat.le_of_ble_eq_true rfl) ⟨2, Or.inr (Or.inr (Or.inl ⟨rfl, rfl⟩))⟩ (T_Duo_takeBoth_0 h)
set_option maxRecDepth 20000 in
set_option maxHeartbeats 1000000 in
theorem T_Duo_take_0 {d : Nat} {kd : ZK} {m : ZM} {q : Int → ZM → Prop} {v0 v1 v2 v3 : Int} (h : (zobj kd v0 0 ∧ ∃ q1, CtR d M_Duo_answersBy [(2, v0), (0, v2)] kd m q1 ∧ ∀ x2 m3, q1 x2 m3 → (zobj kd v1 1 ∧ ∃ q4, CtI d M_Game_isTold [(2, v1)] kd m3 q4 ∧ ∀ x5 m6, q4 x5 m6 → ((x5 = 0 → q 0 m6) ∧ (¬ x5 = 0 → ((0 ≤ v3 → (zobj kd v1 1 ∧ ∃ q7, CtI d M_Game_questionsOf [(2, v1), (0, v2)] kd m6 q7 ∧ ∀ x8 m9, q7 x8 m9 → (Ev (d + 1) M_Duo_take 0 0 32 [zJ, (2, v1), (0, v2), zJ, (2, x2), (0, v3), (0, iw (x8 - 1))] [] kd m9 (zqI kd q)))) ∧ (¬ 0 ≤ v3 → q 0 m6))))))) : Ev (d + 1) M_Duo_take 0 0 0 [(2, v0), (2, v1), (0, v2), (0, v3), zJ, zJ, zJ] [] kd m (zqI kd q) := by
  refine EvX.blk (pc' := 2) [(.aload_n 0, 0, 0), (.iload_n 2, 0, 0)] (by decide +kernel) trivial ?_
  show Ev (d + 1) M_Duo_take 0 0 2 [(2, v0), (2, v1), (0, v2), (0, v3), zJ, zJ, zJ] [(0, v2), (2, v0)] kd m (zqI kd q)
  obtain ⟨ov, h⟩ := h
  obtain ⟨q1, hq, h⟩ := h
  refine EvX.callV (c := 0) (mc := 0) (ms := 0) (as := [(0, v2)]) (st := []) (by decide +kernel) l_Duo_25 k_Duo_answersBy v_Duo_answersBy a_Duo_answersBy (by decide) (Nat.le_of_ble_eq_true rfl) rfl ov hq (fun r kd1 m3 hr => ?_)
  obtain ⟨x2, rfl, hk, hr⟩ := hr
  subst kd1
  have h := h x2 m3 hr
  show Ev (d + 1) M_Duo_take 0 0 5 [(2, v0), (2, v1), (0, v2), (0, v3), zJ, zJ, zJ] [(2, x2)] kd m3 (zqI kd q)
  refine EvX.blk (pc' := 11) [(.astore 4, 0, 0), (.iload_n 3, 0, 0), (.istore 5, 0, 0), (.aload_n 1, 0, 0)] (by decide +kernel) trivial ?_
  show Ev (d + 1) M_Duo_take 0 0 11 [(2, v0), (2, v1), (0, v2), (0, v3), (2, x2), (0, v3), zJ] [(2, v1)] kd m3 (zqI kd q)
  obtain ⟨ov, h⟩ := h
  obtain ⟨q4, hq, h⟩ := h
  refine EvX.callV (c := 1) (mc := 0) (ms := 0) (as := []) (st := []) (by decide +kernel) l_Duo_29 k_Game_isTold v_Game_isTold a_Game_isTold (by decide) (Nat.le_of_ble_eq_true rfl) rfl ov hq (fun r kd1 m6 hr => ?_)
  obtain ⟨x5, rfl, hk, hr⟩ := hr
  subst kd1
  have h := h x5 m6 hr
  show Ev (d + 1) M_Duo_take 0 0 14 [(2, v0), (2, v1), (0, v2), (0, v3), (2, x2), (0, v3), zJ] [(0, x5)] kd m6 (zqI kd q)
  refine EvX.if_eq (off := 7) (tgt := 21) (by decide +kernel) (by decide) (fun hc => ?_) (fun hc => ?_)
  · have h := h.1 hc
    refine EvX.blk (pc' := 22) [(.iconst 0, 0, 0)] (by decide +kernel) trivial ?_
    show Ev (d + 1) M_Duo_take 0 0 22 [(2, v0), (2, v1), (0, v2), (0, v3), (2, x2), (0, v3), zJ] [(0, 0)] kd m6 (zqI kd q)
    exact EvX.ret (r := (0, 0)) (by decide +kernel) ⟨rfl, by decide, by decide⟩ ⟨_, rfl, rfl, h⟩
  · have h := h.2 hc
    refine EvX.blk (pc' := 18) [(.iload_n 3, 0, 0)] (by decide +kernel) trivial ?_
    show Ev (d + 1) M_Duo_take 0 0 18 [(2, v0), (2, v1), (0, v2), (0, v3), (2, x2), (0, v3), zJ] [(0, v3)] kd m6 (zqI kd q)
    refine EvX.if_ge (off := 5) (tgt := 23) (by decide +kernel) (by decide) (fun hc => ?_) (fun hc => ?_)
    · have h := h.1 hc
      refine EvX.blk (pc' := 25) [(.aload_n 1, 0, 0), (.iload_n 2, 0, 0)] (by decide +kernel) trivial ?_
      show Ev (d + 1) M_Duo_take 0 0 25 [(2, v0), (2, v1), (0, v2), (0, v3), (2, x2), (0, v3), zJ] [(0, v2), (2, v1)] kd m6 (zqI kd q)
      obtain ⟨ov, h⟩ := h
      obtain ⟨q7, hq, h⟩ := h
      refine EvX.callV (c := 1) (mc := 0) (ms := 0) (as := [(0, v2)]) (st := []) (by decide +kernel) l_Duo_35 k_Game_questionsOf v_Game_questionsOf a_Game_questionsOf (by decide) (Nat.le_of_ble_eq_true rfl) rfl ov hq (fun r kd1 m9 hr => ?_)
      obtain ⟨x8, rfl, hk, hr⟩ := hr
      subst kd1
      have h := h x8 m9 hr
      show Ev (d + 1) M_Duo_take 0 0 28 [(2, v0), (2, v1), (0, v2), (0, v3), (2, x2), (0, v3), zJ] [(0, x8)] kd m9 (zqI kd q)
      refine EvX.blk (pc' := 32) [(.iconst 1, 0, 0), (.isub, 0, 0), (.istore 6, 0, 0)] (by decide +kernel) trivial ?_
      show Ev (d + 1) M_Duo_take 0 0 32 [(2, v0), (2, v1), (0, v2), (0, v3), (2, x2), (0, v3), (0, iw (x8 - 1))] [] kd m9 (zqI kd q)
      exact EvX.weak (ls2 := [zJ, (2, v1), (0, v2), zJ, (2, x2), (0, v3), (0, iw (x8 - 1))]) (zwk_of ⟨Or.inl rfl, Or.inr rfl, Or.inr rfl, Or.inl rfl, Or.inr rfl, Or.inr rfl, Or.inr rfl, trivial⟩) h
    · have h := h.2 hc
      refine EvX.blk (pc' := 22) [(.iconst 0, 0, 0)] (by decide +kernel) trivial ?_
      show Ev (d + 1) M_Duo_take 0 0 22 [(2, v0), (2, v1), (0, v2), (0, v3), (2, x2), (0, v3), zJ] [(0, 0)] kd m6 (zqI kd q)
      exact EvX.ret (r := (0, 0)) (by decide +kernel) ⟨rfl, by decide, by decide⟩ ⟨_, rfl, rfl, h⟩
theorem S_Duo_take {d : Nat} {kd : ZK} {m : ZM} {q : Int → ZM → Prop} {v0 v1 v2 v3 : Int} (h : (zobj kd v0 0 ∧ ∃ q1, CtR d M_Duo_answersBy [(2, v0), (0, v2)] kd m q1 ∧ ∀ x2 m3, q1 x2 m3 → (zobj kd v1 1 ∧ ∃ q4, CtI d M_Game_isTold [(2, v1)] kd m3 q4 ∧ ∀ x5 m6, q4 x5 m6 → ((x5 = 0 → q 0 m6) ∧ (¬ x5 = 0 → ((0 ≤ v3 → (zobj kd v1 1 ∧ ∃ q7, CtI d M_Game_questionsOf [(2, v1), (0, v2)] kd m6 q7 ∧ ∀ x8 m9, q7 x8 m9 → (Ev (d + 1) M_Duo_take 0 0 32 [zJ, (2, v1), (0, v2), zJ, (2, x2), (0, v3), (0, iw (x8 - 1))] [] kd m9 (zqI kd q)))) ∧ (¬ 0 ≤ v3 → q 0 m6))))))) : CtI (d + 1) M_Duo_take [(2, v0), (2, v1), (0, v2), (0, v3)] kd m q :=
  Ct.start k_Duo_take (Nat.le_of_ble_eq_true rfl) ⟨2, Or.inr (Or.inr (Or.inl ⟨rfl, rfl⟩))⟩ (T_Duo_take_0 h)
set_option maxRecDepth 20000 in
set_option maxHeartbeats 1000000 in
theorem T_Duo_take_32 {d : Nat} {kd : ZK} {m : ZM} {q : Int → ZM → Prop} {v1 v2 v4 v5 v6 : Int} (h : ((v6 < 0 → ((v5 ≠ 0 → q 0 m) ∧ (¬ v5 ≠ 0 → q 1 m))) ∧ (¬ v6 < 0 → (zIn kd v4 0 v6 ∧ zIn kd v4 0 v6 ∧ (zobj kd v1 1 ∧ ∃ q1, CtI d M_Game_hasAnswer [(2, v1), (0, v2), (0, (zup m v4 v6 (Int.tmod v5 10)) v4 v6)] kd (zup m v4 v6 (Int.tmod v5 10)) q1 ∧ ∀ x2 m3, q1 x2 m3 → ((x2 ≠ 0 → (Ev (d + 1) M_Duo_take 0 0 32 [zJ, (2, v1), (0, v2), zJ, (2, v4), (0, iw (Int.tdiv v5 10)), (0, iw (v6 + (-1)))] [] kd m3 (zqI kd q))) ∧ (¬ x2 ≠ 0 → q 0 m3))))))) : Ev (d + 1) M_Duo_take 0 0 32 [zJ, (2, v1), (0, v2), zJ, (2, v4), (0, v5), (0, v6)] [] kd m (zqI kd q) := by
  refine EvX.blk (pc' := 34) [(.iload 6, 0, 0)] (by decide +kernel) trivial ?_
  show Ev (d + 1) M_Duo_take 0 0 34 [zJ, (2, v1), (0, v2), zJ, (2, v4), (0, v5), (0, v6)] [(0, v6)] kd m (zqI kd q)
  refine EvX.if_lt (off := 41) (tgt := 75) (by decide +kernel) (by decide) (fun hc => ?_) (fun hc => ?_)
  · have h := h.1 hc
    refine EvX.blk (pc' := 77) [(.iload 5, 0, 0)] (by decide +kernel) trivial ?_
    show Ev (d + 1) M_Duo_take 0 0 77 [zJ, (2, v1), (0, v2), zJ, (2, v4), (0, v5), (0, v6)] [(0, v5)] kd m (zqI kd q)
    refine EvX.if_ne (off := 7) (tgt := 84) (by decide +kernel) (by decide) (fun hc => ?_) (fun hc => ?_)
    · have h := h.1 hc
      refine EvX.blk (pc' := 85) [(.iconst 0, 0, 0)] (by decide +kernel) trivial ?_
      show Ev (d + 1) M_Duo_take 0 0 85 [zJ, (2, v1), (0, v2), zJ, (2, v4), (0, v5), (0, v6)] [(0, 0)] kd m (zqI kd q)
      exact EvX.ret (r := (0, 0)) (by decide +kernel) ⟨rfl, by decide, by decide⟩ ⟨_, rfl, rfl, h⟩
    · have h := h.2 hc
      refine EvX.blk (pc' := 81) [(.iconst 1, 0, 0)] (by decide +kernel) trivial ?_
      show Ev (d + 1) M_Duo_take 0 0 81 [zJ, (2, v1), (0, v2), zJ, (2, v4), (0, v5), (0, v6)] [(0, 1)] kd m (zqI kd q)
      refine EvX.goto (off := 4) (tgt := 85) (by decide +kernel) (by decide) ?_
      exact EvX.ret (r := (0, 1)) (by decide +kernel) ⟨rfl, by decide, by decide⟩ ⟨_, rfl, rfl, h⟩
  · have h := h.2 hc
    obtain ⟨o1, o2, h⟩ := h
    refine EvX.blk (pc' := 61) [(.aload 4, 0, 0), (.iload 6, 0, 0), (.iload 5, 0, 0), (.bipush 10, 0, 0), (.irem, 0, 0), (.iastore, 0, 0), (.iload 5, 0, 0), (.bipush 10, 0, 0), (.idiv, 0, 0), (.istore 5, 0, 0), (.aload_n 1, 0, 0), (.iload_n 2, 0, 0), (.aload 4, 0, 0), (.iload 6, 0, 0), (.iaload, 0, 0)] (by decide +kernel) trivial ⟨by decide, o1, by decide, o2, ?_⟩
    show Ev (d + 1) M_Duo_take 0 0 61 [zJ, (2, v1), (0, v2), zJ, (2, v4), (0, iw (Int.tdiv v5 10)), (0, v6)] [(0, (zup m v4 v6 (Int.tmod v5 10)) v4 v6), (0, v2), (2, v1)] kd (zup m v4 v6 (Int.tmod v5 10)) (zqI kd q)
    obtain ⟨ov, h⟩ := h
    obtain ⟨q1, hq, h⟩ := h
    refine EvX.callV (c := 1) (mc := 0) (ms := 0) (as := [(0, v2), (0, (zup m v4 v6 (Int.tmod v5 10)) v4 v6)]) (st := []) (by decide +kernel) l_Duo_39 k_Game_hasAnswer v_Game_hasAnswer a_Game_hasAnswer (by decide) (Nat.le_of_ble_eq_true rfl) rfl ov hq (fun r kd1 m3 hr => ?_)
    obtain ⟨x2, rfl, hk, hr⟩ := hr
    subst kd1
    have h := h x2 m3 hr
    show Ev (d + 1) M_Duo_take 0 0 64 [zJ, (2, v1), (0, v2), zJ, (2, v4), (0, iw (Int.tdiv v5 10)), (0, v6)] [(0, x2)] kd m3 (zqI kd q)
    refine EvX.if_ne (off := 5) (tgt := 69) (by decide +kernel) (by decide) (fun hc => ?_) (fun hc => ?_)
    · have h := h.1 hc
      refine EvX.blk (pc' := 72) [(.iinc 6 (-1), 0, 0)] (by decide +kernel) trivial ?_
      show Ev (d + 1) M_Duo_take 0 0 72 [zJ, (2, v1), (0, v2), zJ, (2, v4), (0, iw (Int.tdiv v5 10)), (0, iw (v6 + (-1)))] [] kd m3 (zqI kd q)
      refine EvX.goto (off := (-40)) (tgt := 32) (by decide +kernel) (by decide) ?_
      exact h
    · have h := h.2 hc
      refine EvX.blk (pc' := 68) [(.iconst 0, 0, 0)] (by decide +kernel) trivial ?_
      show Ev (d + 1) M_Duo_take 0 0 68 [zJ, (2, v1), (0, v2), zJ, (2, v4), (0, iw (Int.tdiv v5 10)), (0, v6)] [(0, 0)] kd m3 (zqI kd q)
      exact EvX.ret (r := (0, 0)) (by decide +kernel) ⟨rfl, by decide, by decide⟩ ⟨_, rfl, rfl, h⟩
set_option maxRecDepth 20000 in
set_option maxHeartbeats 1000000 in
theorem T_Duo_rowOf_0 {d : Nat} {kd : ZK} {m : ZM} {q : Int → ZM → Prop} {v0 v1 v2 : Int} (h : (zobj kd v0 0 ∧ ∃ q1, CtR d M_Duo_answersBy [(2, v0), (0, v2)] kd m q1 ∧ ∀ x2 m3, q1 x2 m3 → (zobj kd v1 1 ∧ ∃ q4, CtI d M_Game_questionsOf [(2, v1), (0, v2)] kd m3 q4 ∧ ∀ x5 m6, q4 x5 m6 → (∃ q7, CtI d M_Duo_numberOf [(2, x2), (0, x5)] kd m6 q7 ∧ ∀ x8 m9, q7 x8 m9 → q x8 m9)))) : Ev (d + 1) M_Duo_rowOf 0 0 0 [(2, v0), (2, v1), (0, v2)] [] kd m (zqI kd q) := by
  refine EvX.blk (pc' := 2) [(.aload_n 0, 0, 0), (.iload_n 2, 0, 0)] (by decide +kernel) trivial ?_
  show Ev (d + 1) M_Duo_rowOf 0 0 2 [(2, v0), (2, v1), (0, v2)] [(0, v2), (2, v0)] kd m (zqI kd q)
  obtain ⟨ov, h⟩ := h
  obtain ⟨q1, hq, h⟩ := h
  refine EvX.callV (c := 0) (mc := 0) (ms := 0) (as := [(0, v2)]) (st := []) (by decide +kernel) l_Duo_25 k_Duo_answersBy v_Duo_answersBy a_Duo_answersBy (by decide) (Nat.le_of_ble_eq_true rfl) rfl ov hq (fun r kd1 m3 hr => ?_)
  obtain ⟨x2, rfl, hk, hr⟩ := hr
  subst kd1
  have h := h x2 m3 hr
  show Ev (d + 1) M_Duo_rowOf 0 0 5 [(2, v0), (2, v1), (0, v2)] [(2, x2)] kd m3 (zqI kd q)
  refine EvX.blk (pc' := 7) [(.aload_n 1, 0, 0), (.iload_n 2, 0, 0)] (by decide +kernel) trivial ?_
  show Ev (d + 1) M_Duo_rowOf 0 0 7 [(2, v0), (2, v1), (0, v2)] [(0, v2), (2, v1), (2, x2)] kd m3 (zqI kd q)
  obtain ⟨ov, h⟩ := h
  obtain ⟨q4, hq, h⟩ := h
  refine EvX.callV (c := 1) (mc := 0) (ms := 0) (as := [(0, v2)]) (st := [(2, x2)]) (by decide +kernel) l_Duo_35 k_Game_questionsOf v_Game_questionsOf a_Game_questionsOf (by decide) (Nat.le_of_ble_eq_true rfl) rfl ov hq (fun r kd1 m6 hr => ?_)
  obtain ⟨x5, rfl, hk, hr⟩ := hr
  subst kd1
  have h := h x5 m6 hr
  show Ev (d + 1) M_Duo_rowOf 0 0 10 [(2, v0), (2, v1), (0, v2)] [(0, x5), (2, x2)] kd m6 (zqI kd q)
  obtain ⟨q7, hq, h⟩ := h
  refine EvX.callS (mc := 0) (ms := 0) (as := [(2, x2), (0, x5)]) (st := []) (by decide +kernel) l_Duo_43 k_Duo_numberOf s_Duo_numberOf a_Duo_numberOf (by decide) (Nat.le_of_ble_eq_true rfl) hq (fun r kd1 m9 hr => ?_)
  obtain ⟨x8, rfl, hk, hr⟩ := hr
  subst kd1
  have h := h x8 m9 hr
  show Ev (d + 1) M_Duo_rowOf 0 0 13 [(2, v0), (2, v1), (0, v2)] [(0, x8)] kd m9 (zqI kd q)
  exact EvX.ret (r := (0, x8)) (by decide +kernel) rfl ⟨_, rfl, rfl, h⟩
theorem S_Duo_rowOf {d : Nat} {kd : ZK} {m : ZM} {q : Int → ZM → Prop} {v0 v1 v2 : Int} (h : (zobj kd v0 0 ∧ ∃ q1, CtR d M_Duo_answersBy [(2, v0), (0, v2)] kd m q1 ∧ ∀ x2 m3, q1 x2 m3 → (zobj kd v1 1 ∧ ∃ q4, CtI d M_Game_questionsOf [(2, v1), (0, v2)] kd m3 q4 ∧ ∀ x5 m6, q4 x5 m6 → (∃ q7, CtI d M_Duo_numberOf [(2, x2), (0, x5)] kd m6 q7 ∧ ∀ x8 m9, q7 x8 m9 → q x8 m9)))) : CtI (d + 1) M_Duo_rowOf [(2, v0), (2, v1), (0, v2)] kd m q :=
  Ct.start k_Duo_rowOf (Nat.le_of_ble_eq_true rfl) ⟨1, Or.inr (Or.inl ⟨rfl, rfl⟩)⟩ (T_Duo_rowOf_0 h)
set_option maxRecDepth 20000 in
set_option maxHeartbeats 1000000 in
theorem T_Duo_bestReply_0 {d : Nat} {kd : ZK} {m : ZM} {q : Int → ZM → Prop} {v0 v1 v2 : Int} (h : (zobj kd v0 0 ∧ (zobj kd v1 1 ∧ ∃ q1, CtI d M_Game_questionsOf [(2, v1), (0, v2)] kd m q1 ∧ ∀ x2 m3, q1 x2 m3 → (∃ q4, CtI d M_Duo_numberOf [(2, m v0 2), (0, x2)] kd m3 q4 ∧ ∀ x5 m6, q4 x5 m6 → q x5 m6)))) : Ev (d + 1) M_Duo_bestReply 0 0 0 [(2, v0), (2, v1), (0, v2)] [] kd m (zqI kd q) := by
  obtain ⟨o1, h⟩ := h
  refine EvX.blk (pc' := 6) [(.aload_n 0, 0, 0), (.getfield 18, 0, 2), (.aload_n 1, 0, 0), (.iload_n 2, 0, 0)] (by decide +kernel) ⟨g_Duo_18, trivial⟩ ⟨o1, ?_⟩
  show Ev (d + 1) M_Duo_bestReply 0 0 6 [(2, v0), (2, v1), (0, v2)] [(0, v2), (2, v1), (2, m v0 2)] kd m (zqI kd q)
  obtain ⟨ov, h⟩ := h
  obtain ⟨q1, hq, h⟩ := h
  refine EvX.callV (c := 1) (mc := 0) (ms := 0) (as := [(0, v2)]) (st := [(2, m v0 2)]) (by decide +kernel) l_Duo_35 k_Game_questionsOf v_Game_questionsOf a_Game_questionsOf (by decide) (Nat.le_of_ble_eq_true rfl) rfl ov hq (fun r kd1 m3 hr => ?_)
  obtain ⟨x2, rfl, hk, hr⟩ := hr
  subst kd1
  have h := h x2 m3 hr
  show Ev (d + 1) M_Duo_bestReply 0 0 9 [(2, v0), (2, v1), (0, v2)] [(0, x2), (2, m v0 2)] kd m3 (zqI kd q)
  obtain ⟨q4, hq, h⟩ := h
  refine EvX.callS (mc := 0) (ms := 0) (as := [(2, m v0 2), (0, x2)]) (st := []) (by decide +kernel) l_Duo_43 k_Duo_numberOf s_Duo_numberOf a_Duo_numberOf (by decide) (Nat.le_of_ble_eq_true rfl) hq (fun r kd1 m6 hr => ?_)
  obtain ⟨x5, rfl, hk, hr⟩ := hr
  subst kd1
  have h := h x5 m6 hr
  show Ev (d + 1) M_Duo_bestReply 0 0 12 [(2, v0), (2, v1), (0, v2)] [(0, x5)] kd m6 (zqI kd q)
  exact EvX.ret (r := (0, x5)) (by decide +kernel) rfl ⟨_, rfl, rfl, h⟩
theorem S_Duo_bestReply {d : Nat} {kd : ZK} {m : ZM} {q : Int → ZM → Prop} {v0 v1 v2 : Int} (h : (zobj kd v0 0 ∧ (zobj kd v1 1 ∧ ∃ q1, CtI d M_Game_questionsOf [(2, v1), (0, v2)] kd m q1 ∧ ∀ x2 m3, q1 x2 m3 → (∃ q4, CtI d M_Duo_numberOf [(2, m v0 2), (0, x2)] kd m3 q4 ∧ ∀ x5 m6, q4 x5 m6 → q x5 m6)))) : CtI (d + 1) M_Duo_bestReply [(2, v0), (2, v1), (0, v2)] kd m q :=
  Ct.start k_Duo_bestReply (Nat.le_of_ble_eq_true rfl) ⟨1, Or.inr (Or.inl ⟨rfl, rfl⟩)⟩ (T_Duo_bestReply_0 h)
set_option maxRecDepth 20000 in
set_option maxHeartbeats 1000000 in
theorem T_Duo_numberOf_0 {d : Nat} {kd : ZK} {m : ZM} {q : Int → ZM → Prop} {v0 v1 : Int} (h : (Ev (d + 1) M_Duo_numberOf 0 0 4 [(2, v0), (0, v1), (0, 0), (0, 0)] [] kd m (zqI kd q))) : Ev (d + 1) M_Duo_numberOf 0 0 0 [(2, v0), (0, v1), zJ, zJ] [] kd m (zqI kd q) := by
  refine EvX.blk (pc' := 4) [(.iconst 0, 0, 0), (.istore_n 2, 0, 0), (.iconst 0, 0, 0), (.istore_n 3, 0, 0)] (by decide +kernel) trivial ?_
  show Ev (d + 1) M_Duo_numberOf 0 0 4 [(2, v0), (0, v1), (0, 0), (0, 0)] [] kd m (zqI kd q)
  exact h
theorem S_Duo_numberOf {d : Nat} {kd : ZK} {m : ZM} {q : Int → ZM → Prop} {v0 v1 : Int} (h : (Ev (d + 1) M_Duo_numberOf 0 0 4 [(2, v0), (0, v1), (0, 0), (0, 0)] [] kd m (zqI kd q))) : CtI (d + 1) M_Duo_numberOf [(2, v0), (0, v1)] kd m q :=
  Ct.start k_Duo_numberOf (Nat.le_of_ble_eq_true rfl) ⟨1, Or.inr (Or.inl ⟨rfl, rfl⟩)⟩ (T_Duo_numberOf_0 h)
set_option maxRecDepth 20000 in
set_option maxHeartbeats 1000000 in
theorem T_Duo_numberOf_4 {d : Nat} {kd : ZK} {m : ZM} {q : Int → ZM → Prop} {v0 v1 v2 v3 : Int} (h : ((v1 ≤ v3 → q v2 m) ∧ (¬ v1 ≤ v3 → (zIn kd v0 0 v3 ∧ (Ev (d + 1) M_Duo_numberOf 0 0 4 [(2, v0), (0, v1), (0, iw ((iw (v2 * 10)) + (m v0 v3))), (0, iw (v3 + 1))] [] kd m (zqI kd q)))))) : Ev (d + 1) M_Duo_numberOf 0 0 4 [(2, v0), (0, v1), (0, v2), (0, v3)] [] kd m (zqI kd q) := by
  refine EvX.blk (pc' := 6) [(.iload_n 3, 0, 0), (.iload_n 1, 0, 0)] (by decide +kernel) trivial ?_
  show Ev (d + 1) M_Duo_numberOf 0 0 6 [(2, v0), (0, v1), (0, v2), (0, v3)] [(0, v1), (0, v3)] kd m (zqI kd q)
  refine EvX.icmp_ge (off := 18) (tgt := 24) (by decide +kernel) (by decide) (fun hc => ?_) (fun hc => ?_)
  · have h := h.1 hc
    refine EvX.blk (pc' := 25) [(.iload_n 2, 0, 0)] (by decide +kernel) trivial ?_
    show Ev (d + 1) M_Duo_numberOf 0 0 25 [(2, v0), (0, v1), (0, v2), (0, v3)] [(0, v2)] kd m (zqI kd q)
    exact EvX.ret (r := (0, v2)) (by decide +kernel) rfl ⟨_, rfl, rfl, h⟩
  · have h := h.2 hc
    obtain ⟨o1, h⟩ := h
    refine EvX.blk (pc' := 21) [(.iload_n 2, 0, 0), (.bipush 10, 0, 0), (.imul, 0, 0), (.aload_n 0, 0, 0), (.iload_n 3, 0, 0), (.iaload, 0, 0), (.iadd, 0, 0), (.istore_n 2, 0, 0), (.iinc 3 1, 0, 0)] (by decide +kernel) trivial ⟨o1, ?_⟩
    show Ev (d + 1) M_Duo_numberOf 0 0 21 [(2, v0), (0, v1), (0, iw ((iw (v2 * 10)) + (m v0 v3))), (0, iw (v3 + 1))] [] kd m (zqI kd q)
    refine EvX.goto (off := (-17)) (tgt := 4) (by decide +kernel) (by decide) ?_
    exact h
set_option maxRecDepth 20000 in
set_option maxHeartbeats 1000000 in
theorem T_Duo_worthBoth_0 {d : Nat} {kd : ZK} {m : ZM} {q : Int → ZM → Prop} {v0 v1 : Int} (h : (Ev (d + 1) M_Duo_worthBoth 0 0 4 [(2, v0), (2, v1), (0, 0), (0, 0)] [] kd m (zqI kd q))) : Ev (d + 1) M_Duo_worthBoth 0 0 0 [(2, v0), (2, v1), zJ, zJ] [] kd m (zqI kd q) := by
  refine EvX.blk (pc' := 4) [(.iconst 0, 0, 0), (.istore_n 2, 0, 0), (.iconst 0, 0, 0), (.istore_n 3, 0, 0)] (by decide +kernel) trivial ?_
  show Ev (d + 1) M_Duo_worthBoth 0 0 4 [(2, v0), (2, v1), (0, 0), (0, 0)] [] kd m (zqI kd q)
  exact h
theorem S_Duo_worthBoth {d : Nat} {kd : ZK} {m : ZM} {q : Int → ZM → Prop} {v0 v1 : Int} (h : (Ev (d + 1) M_Duo_worthBoth 0 0 4 [(2, v0), (2, v1), (0, 0), (0, 0)] [] kd m (zqI kd q))) : CtI (d + 1) M_Duo_worthBoth [(2, v0), (2, v1)] kd m q :=
  Ct.start k_Duo_worthBoth (Nat.le_of_ble_eq_true rfl) ⟨1, Or.inr (Or.inl ⟨rfl, rfl⟩)⟩ (T_Duo_worthBoth_0 h)
set_option maxRecDepth 20000 in
set_option maxHeartbeats 1000000 in
theorem T_Duo_worthBoth_4 {d : Nat} {kd : ZK} {m : ZM} {q : Int → ZM → Prop} {v0 v1 v2 v3 : Int} (h : (zobj kd v1 1 ∧ (((m v1 0) ≤ v3 → q v2 m) ∧ (¬ (m v1 0) ≤ v3 → (zobj kd v0 0 ∧ zIn kd (m v0 0) 0 v3 ∧ (zobj kd v0 0 ∧ ∃ q1, CtI d M_Duo_worthAt [(2, v0), (2, v1), (0, 0), (0, v3), (0, m (m v0 0) v3)] kd m q1 ∧ ∀ x2 m3, q1 x2 m3 → (Ev (d + 1) M_Duo_worthBoth 0 0 4 [(2, v0), (2, v1), (0, iw (v2 + x2)), (0, iw (v3 + 1))] [] kd m3 (zqI kd q)))))))) : Ev (d + 1) M_Duo_worthBoth 0 0 4 [(2, v0), (2, v1), (0, v2), (0, v3)] [] kd m (zqI kd q) := by
  obtain ⟨o1, h⟩ := h
  refine EvX.blk (pc' := 9) [(.iload_n 3, 0, 0), (.aload_n 1, 0, 0), (.getfield 47, 1, 0)] (by decide +kernel) ⟨g_Duo_47, trivial⟩ ⟨o1, ?_⟩
  show Ev (d + 1) M_Duo_worthBoth 0 0 9 [(2, v0), (2, v1), (0, v2), (0, v3)] [(0, m v1 0), (0, v3)] kd m (zqI kd q)
  refine EvX.icmp_ge (off := 25) (tgt := 34) (by decide +kernel) (by decide) (fun hc => ?_) (fun hc => ?_)
  · have h := h.1 hc
    refine EvX.blk (pc' := 35) [(.iload_n 2, 0, 0)] (by decide +kernel) trivial ?_
    show Ev (d + 1) M_Duo_worthBoth 0 0 35 [(2, v0), (2, v1), (0, v2), (0, v3)] [(0, v2)] kd m (zqI kd q)
    exact EvX.ret (r := (0, v2)) (by decide +kernel) rfl ⟨_, rfl, rfl, h⟩
  · have h := h.2 hc
    obtain ⟨o1, o2, h⟩ := h
    refine EvX.blk (pc' := 23) [(.iload_n 2, 0, 0), (.aload_n 0, 0, 0), (.aload_n 1, 0, 0), (.iconst 0, 0, 0), (.iload_n 3, 0, 0), (.aload_n 0, 0, 0), (.getfield 9, 0, 0), (.iload_n 3, 0, 0), (.iaload, 0, 0)] (by decide +kernel) ⟨g_Duo_9, trivial⟩ ⟨o1, o2, ?_⟩
    show Ev (d + 1) M_Duo_worthBoth 0 0 23 [(2, v0), (2, v1), (0, v2), (0, v3)] [(0, m (m v0 0) v3), (0, v3), (0, 0), (2, v1), (2, v0), (0, v2)] kd m (zqI kd q)
    obtain ⟨ov, h⟩ := h
    obtain ⟨q1, hq, h⟩ := h
    refine EvX.callV (c := 0) (mc := 0) (ms := 0) (as := [(2, v1), (0, 0), (0, v3), (0, m (m v0 0) v3)]) (st := [(0, v2)]) (by decide +kernel) l_Duo_51 k_Duo_worthAt v_Duo_worthAt a_Duo_worthAt (by decide) (Nat.le_of_ble_eq_true rfl) rfl ov hq (fun r kd1 m3 hr => ?_)
    obtain ⟨x2, rfl, hk, hr⟩ := hr
    subst kd1
    have h := h x2 m3 hr
    show Ev (d + 1) M_Duo_worthBoth 0 0 26 [(2, v0), (2, v1), (0, v2), (0, v3)] [(0, x2), (0, v2)] kd m3 (zqI kd q)
    refine EvX.blk (pc' := 31) [(.iadd, 0, 0), (.istore_n 2, 0, 0), (.iinc 3 1, 0, 0)] (by decide +kernel) trivial ?_
    show Ev (d + 1) M_Duo_worthBoth 0 0 31 [(2, v0), (2, v1), (0, iw (v2 + x2)), (0, iw (v3 + 1))] [] kd m3 (zqI kd q)
    refine EvX.goto (off := (-27)) (tgt := 4) (by decide +kernel) (by decide) ?_
    exact h
set_option maxRecDepth 20000 in
set_option maxHeartbeats 1000000 in
theorem T_Duo_worthAt_0 {d : Nat} {kd : ZK} {m : ZM} {q : Int → ZM → Prop} {v0 v1 v2 v3 v4 : Int} (h : (zobj kd v0 0 ∧ ∃ q1, CtR d M_Duo_answersBy [(2, v0), (0, iw (1 - v2))] kd m q1 ∧ ∀ x2 m3, q1 x2 m3 → (Ev (d + 1) M_Duo_worthAt 0 0 15 [zJ, (2, v1), (0, v2), (0, v3), (0, v4), (2, x2), (0, 0), (0, 0)] [] kd m3 (zqI kd q)))) : Ev (d + 1) M_Duo_worthAt 0 0 0 [(2, v0), (2, v1), (0, v2), (0, v3), (0, v4), zJ, zJ, zJ] [] kd m (zqI kd q) := by
  refine EvX.blk (pc' := 4) [(.aload_n 0, 0, 0), (.iconst 1, 0, 0), (.iload_n 2, 0, 0), (.isub, 0, 0)] (by decide +kernel) trivial ?_
  show Ev (d + 1) M_Duo_worthAt 0 0 4 [(2, v0), (2, v1), (0, v2), (0, v3), (0, v4), zJ, zJ, zJ] [(0, iw (1 - v2)), (2, v0)] kd m (zqI kd q)
  obtain ⟨ov, h⟩ := h
  obtain ⟨q1, hq, h⟩ := h
  refine EvX.callV (c := 0) (mc := 0) (ms := 0) (as := [(0, iw (1 - v2))]) (st := []) (by decide +kernel) l_Duo_25 k_Duo_answersBy v_Duo_answersBy a_Duo_answersBy (by decide) (Nat.le_of_ble_eq_true rfl) rfl ov hq (fun r kd1 m3 hr => ?_)
  obtain ⟨x2, rfl, hk, hr⟩ := hr
  subst kd1
  have h := h x2 m3 hr
  show Ev (d + 1) M_Duo_worthAt 0 0 7 [(2, v0), (2, v1), (0, v2), (0, v3), (0, v4), zJ, zJ, zJ] [(2, x2)] kd m3 (zqI kd q)
  refine EvX.blk (pc' := 15) [(.astore 5, 0, 0), (.iconst 0, 0, 0), (.istore 6, 0, 0), (.iconst 0, 0, 0), (.istore 7, 0, 0)] (by decide +kernel) trivial ?_
  show Ev (d + 1) M_Duo_worthAt 0 0 15 [(2, v0), (2, v1), (0, v2), (0, v3), (0, v4), (2, x2), (0, 0), (0, 0)] [] kd m3 (zqI kd q)
  exact EvX.weak (ls2 := [zJ, (2, v1), (0, v2), (0, v3), (0, v4), (2, x2), (0, 0), (0, 0)]) (zwk_of ⟨Or.inl rfl, Or.inr rfl, Or.inr rfl, Or.inr rfl, Or.inr rfl, Or.inr rfl, Or.inr rfl, Or.inr rfl, trivial⟩) h
theorem S_Duo_worthAt {d : Nat} {kd : ZK} {m : ZM} {q : Int → ZM → Prop} {v0 v1 v2 v3 v4 : Int} (h : (zobj kd v0 0 ∧ ∃ q1, CtR d M_Duo_answersBy [(2, v0), (0, iw (1 - v2))] kd m q1 ∧ ∀ x2 m3, q1 x2 m3 → (Ev (d + 1) M_Duo_worthAt 0 0 15 [zJ, (2, v1), (0, v2), (0, v3), (0, v4), (2, x2), (0, 0), (0, 0)] [] kd m3 (zqI kd q)))) : CtI (d + 1) M_Duo_worthAt [(2, v0), (2, v1), (0, v2), (0, v3), (0, v4)] kd m q :=
  Ct.start k_Duo_worthAt (Nat.le_of_ble_eq_true rfl) ⟨1, Or.inr (Or.inl ⟨rfl, rfl⟩)⟩ (T_Duo_worthAt_0 h)
set_option maxRecDepth 20000 in
set_option maxHeartbeats 1000000 in
theorem T_Duo_worthAt_15 {d : Nat} {kd : ZK} {m : ZM} {q : Int → ZM → Prop} {v1 v2 v3 v4 v5 v6 v7 : Int} (h : (zobj kd v1 1 ∧ ∃ q1, CtI d M_Game_questionsOf [(2, v1), (0, iw (1 - v2))] kd m q1 ∧ ∀ x2 m3, q1 x2 m3 → ((x2 ≤ v7 → q v6 m3) ∧ (¬ x2 ≤ v7 → (zIn kd v5 0 v7 ∧ (zobj kd v1 1 ∧ ∃ q4, CtI d M_Game_gain [(2, v1), (0, v2), (0, v3), (0, v7), (0, v4), (0, m3 v5 v7)] kd m3 q4 ∧ ∀ x5 m6, q4 x5 m6 → (Ev (d + 1) M_Duo_worthAt 0 0 15 [zJ, (2, v1), (0, v2), (0, v3), (0, v4), (2, v5), (0, iw (v6 + x5)), (0, iw (v7 + 1))] [] kd m6 (zqI kd q)))))))) : Ev (d + 1) M_Duo_worthAt 0 0 15 [zJ, (2, v1), (0, v2), (0, v3), (0, v4), (2, v5), (0, v6), (0, v7)] [] kd m (zqI kd q) := by
  refine EvX.blk (pc' := 21) [(.iload 7, 0, 0), (.aload_n 1, 0, 0), (.iconst 1, 0, 0), (.iload_n 2, 0, 0), (.isub, 0, 0)] (by decide +kernel) trivial ?_
  show Ev (d + 1) M_Duo_worthAt 0 0 21 [zJ, (2, v1), (0, v2), (0, v3), (0, v4), (2, v5), (0, v6), (0, v7)] [(0, iw (1 - v2)), (2, v1), (0, v7)] kd m (zqI kd q)
  obtain ⟨ov, h⟩ := h
  obtain ⟨q1, hq, h⟩ := h
  refine EvX.callV (c := 1) (mc := 0) (ms := 0) (as := [(0, iw (1 - v2))]) (st := [(0, v7)]) (by decide +kernel) l_Duo_35 k_Game_questionsOf v_Game_questionsOf a_Game_questionsOf (by decide) (Nat.le_of_ble_eq_true rfl) rfl ov hq (fun r kd1 m3 hr => ?_)
  obtain ⟨x2, rfl, hk, hr⟩ := hr
  subst kd1
  have h := h x2 m3 hr
  show Ev (d + 1) M_Duo_worthAt 0 0 24 [zJ, (2, v1), (0, v2), (0, v3), (0, v4), (2, v5), (0, v6), (0, v7)] [(0, x2), (0, v7)] kd m3 (zqI kd q)
  refine EvX.icmp_ge (off := 29) (tgt := 53) (by decide +kernel) (by decide) (fun hc => ?_) (fun hc => ?_)
  · have h := h.1 hc
    refine EvX.blk (pc' := 55) [(.iload 6, 0, 0)] (by decide +kernel) trivial ?_
    show Ev (d + 1) M_Duo_worthAt 0 0 55 [zJ, (2, v1), (0, v2), (0, v3), (0, v4), (2, v5), (0, v6), (0, v7)] [(0, v6)] kd m3 (zqI kd q)
    exact EvX.ret (r := (0, v6)) (by decide +kernel) rfl ⟨_, rfl, rfl, h⟩
  · have h := h.2 hc
    obtain ⟨o1, h⟩ := h
    refine EvX.blk (pc' := 41) [(.iload 6, 0, 0), (.aload_n 1, 0, 0), (.iload_n 2, 0, 0), (.iload_n 3, 0, 0), (.iload 7, 0, 0), (.iload 4, 0, 0), (.aload 5, 0, 0), (.iload 7, 0, 0), (.iaload, 0, 0)] (by decide +kernel) trivial ⟨o1, ?_⟩
    show Ev (d + 1) M_Duo_worthAt 0 0 41 [zJ, (2, v1), (0, v2), (0, v3), (0, v4), (2, v5), (0, v6), (0, v7)] [(0, m3 v5 v7), (0, v4), (0, v7), (0, v3), (0, v2), (2, v1), (0, v6)] kd m3 (zqI kd q)
    obtain ⟨ov, h⟩ := h
    obtain ⟨q4, hq, h⟩ := h
    refine EvX.callV (c := 1) (mc := 0) (ms := 0) (as := [(0, v2), (0, v3), (0, v7), (0, v4), (0, m3 v5 v7)]) (st := [(0, v6)]) (by decide +kernel) l_Duo_55 k_Game_gain v_Game_gain a_Game_gain (by decide) (Nat.le_of_ble_eq_true rfl) rfl ov hq (fun r kd1 m6 hr => ?_)
    obtain ⟨x5, rfl, hk, hr⟩ := hr
    subst kd1
    have h := h x5 m6 hr
    show Ev (d + 1) M_Duo_worthAt 0 0 44 [zJ, (2, v1), (0, v2), (0, v3), (0, v4), (2, v5), (0, v6), (0, v7)] [(0, x5), (0, v6)] kd m6 (zqI kd q)
    refine EvX.blk (pc' := 50) [(.iadd, 0, 0), (.istore 6, 0, 0), (.iinc 7 1, 0, 0)] (by decide +kernel) trivial ?_
    show Ev (d + 1) M_Duo_worthAt 0 0 50 [zJ, (2, v1), (0, v2), (0, v3), (0, v4), (2, v5), (0, iw (v6 + x5)), (0, iw (v7 + 1))] [] kd m6 (zqI kd q)
    refine EvX.goto (off := (-35)) (tgt := 15) (by decide +kernel) (by decide) ?_
    exact h
set_option maxRecDepth 20000 in
set_option maxHeartbeats 1000000 in
theorem T_Duo_spanAt_0 {d : Nat} {kd : ZK} {m : ZM} {q : Int → ZM → Prop} {v0 v1 v2 : Int} (h : (zobj kd v0 0 ∧ ∃ q1, CtI d M_Duo_worthAt [(2, v0), (2, v1), (0, 1), (0, v2), (0, 0)] kd m q1 ∧ ∀ x2 m3, q1 x2 m3 → (Ev (d + 1) M_Duo_spanAt 0 0 15 [(2, v0), (2, v1), (0, v2), (0, x2), (0, x2), (0, 1), zJ] [] kd m3 (zqI kd q)))) : Ev (d + 1) M_Duo_spanAt 0 0 0 [(2, v0), (2, v1), (0, v2), zJ, zJ, zJ, zJ] [] kd m (zqI kd q) := by
  refine EvX.blk (pc' := 5) [(.aload_n 0, 0, 0), (.aload_n 1, 0, 0), (.iconst 1, 0, 0), (.iload_n 2, 0, 0), (.iconst 0, 0, 0)] (by decide +kernel) trivial ?_
  show Ev (d + 1) M_Duo_spanAt 0 0 5 [(2, v0), (2, v1), (0, v2), zJ, zJ, zJ, zJ] [(0, 0), (0, v2), (0, 1), (2, v1), (2, v0)] kd m (zqI kd q)
  obtain ⟨ov, h⟩ := h
  obtain ⟨q1, hq, h⟩ := h
  refine EvX.callV (c := 0) (mc := 0) (ms := 0) (as := [(2, v1), (0, 1), (0, v2), (0, 0)]) (st := []) (by decide +kernel) l_Duo_51 k_Duo_worthAt v_Duo_worthAt a_Duo_worthAt (by decide) (Nat.le_of_ble_eq_true rfl) rfl ov hq (fun r kd1 m3 hr => ?_)
  obtain ⟨x2, rfl, hk, hr⟩ := hr
  subst kd1
  have h := h x2 m3 hr
  show Ev (d + 1) M_Duo_spanAt 0 0 8 [(2, v0), (2, v1), (0, v2), zJ, zJ, zJ, zJ] [(0, x2)] kd m3 (zqI kd q)
  refine EvX.blk (pc' := 15) [(.istore_n 3, 0, 0), (.iload_n 3, 0, 0), (.istore 4, 0, 0), (.iconst 1, 0, 0), (.istore 5, 0, 0)] (by decide +kernel) trivial ?_
  show Ev (d + 1) M_Duo_spanAt 0 0 15 [(2, v0), (2, v1), (0, v2), (0, x2), (0, x2), (0, 1), zJ] [] kd m3 (zqI kd q)
  exact h
theorem S_Duo_spanAt {d : Nat} {kd : ZK} {m : ZM} {q : Int → ZM → Prop} {v0 v1 v2 : Int} (h : (zobj kd v0 0 ∧ ∃ q1, CtI d M_Duo_worthAt [(2, v0), (2, v1), (0, 1), (0, v2), (0, 0)] kd m q1 ∧ ∀ x2 m3, q1 x2 m3 → (Ev (d + 1) M_Duo_spanAt 0 0 15 [(2, v0), (2, v1), (0, v2), (0, x2), (0, x2), (0, 1), zJ] [] kd m3 (zqI kd q)))) : CtI (d + 1) M_Duo_spanAt [(2, v0), (2, v1), (0, v2)] kd m q :=
  Ct.start k_Duo_spanAt (Nat.le_of_ble_eq_true rfl) ⟨1, Or.inr (Or.inl ⟨rfl, rfl⟩)⟩ (T_Duo_spanAt_0 h)
set_option maxRecDepth 20000 in
set_option maxHeartbeats 1000000 in
theorem T_Duo_spanAt_15 {d : Nat} {kd : ZK} {m : ZM} {q : Int → ZM → Prop} {v0 v1 v2 v3 v4 v5 : Int} (h : (zobj kd v1 1 ∧ (((m v1 3) ≤ v5 → q (iw (v3 - v4)) m) ∧ (¬ (m v1 3) ≤ v5 → (zobj kd v0 0 ∧ ∃ q1, CtI d M_Duo_worthAt [(2, v0), (2, v1), (0, 1), (0, v2), (0, v5)] kd m q1 ∧ ∀ x2 m3, q1 x2 m3 → (Ev (d + 1) M_Duo_spanAt 0 0 15 [(2, v0), (2, v1), (0, v2), (0, zmax v3 x2), (0, zmin v4 x2), (0, iw (v5 + 1)), zJ] [] kd m3 (zqI kd q))))))) : Ev (d + 1) M_Duo_spanAt 0 0 15 [(2, v0), (2, v1), (0, v2), (0, v3), (0, v4), (0, v5), zJ] [] kd m (zqI kd q) := by
  obtain ⟨o1, h⟩ := h
  refine EvX.blk (pc' := 21) [(.iload 5, 0, 0), (.aload_n 1, 0, 0), (.getfield 59, 1, 3)] (by decide +kernel) ⟨g_Duo_59, trivial⟩ ⟨o1, ?_⟩
  show Ev (d + 1) M_Duo_spanAt 0 0 21 [(2, v0), (2, v1), (0, v2), (0, v3), (0, v4), (0, v5), zJ] [(0, m v1 3), (0, v5)] kd m (zqI kd q)
  refine EvX.icmp_ge (off := 36) (tgt := 57) (by decide +kernel) (by decide) (fun hc => ?_) (fun hc => ?_)
  · have h := h.1 hc
    refine EvX.blk (pc' := 61) [(.iload_n 3, 0, 0), (.iload 4, 0, 0), (.isub, 0, 0)] (by decide +kernel) trivial ?_
    show Ev (d + 1) M_Duo_spanAt 0 0 61 [(2, v0), (2, v1), (0, v2), (0, v3), (0, v4), (0, v5), zJ] [(0, iw (v3 - v4))] kd m (zqI kd q)
    exact EvX.ret (r := (0, iw (v3 - v4))) (by decide +kernel) rfl ⟨_, rfl, rfl, h⟩
  · have h := h.2 hc
    refine EvX.blk (pc' := 30) [(.aload_n 0, 0, 0), (.aload_n 1, 0, 0), (.iconst 1, 0, 0), (.iload_n 2, 0, 0), (.iload 5, 0, 0)] (by decide +kernel) trivial ?_
    show Ev (d + 1) M_Duo_spanAt 0 0 30 [(2, v0), (2, v1), (0, v2), (0, v3), (0, v4), (0, v5), zJ] [(0, v5), (0, v2), (0, 1), (2, v1), (2, v0)] kd m (zqI kd q)
    obtain ⟨ov, h⟩ := h
    obtain ⟨q1, hq, h⟩ := h
    refine EvX.callV (c := 0) (mc := 0) (ms := 0) (as := [(2, v1), (0, 1), (0, v2), (0, v5)]) (st := []) (by decide +kernel) l_Duo_51 k_Duo_worthAt v_Duo_worthAt a_Duo_worthAt (by decide) (Nat.le_of_ble_eq_true rfl) rfl ov hq (fun r kd1 m3 hr => ?_)
    obtain ⟨x2, rfl, hk, hr⟩ := hr
    subst kd1
    have h := h x2 m3 hr
    show Ev (d + 1) M_Duo_spanAt 0 0 33 [(2, v0), (2, v1), (0, v2), (0, v3), (0, v4), (0, v5), zJ] [(0, x2)] kd m3 (zqI kd q)
    refine EvX.blk (pc' := 38) [(.istore 6, 0, 0), (.iload_n 3, 0, 0), (.iload 6, 0, 0)] (by decide +kernel) trivial ?_
    show Ev (d + 1) M_Duo_spanAt 0 0 38 [(2, v0), (2, v1), (0, v2), (0, v3), (0, v4), (0, v5), (0, x2)] [(0, x2), (0, v3)] kd m3 (zqI kd q)
    refine EvX.mmax' (by decide +kernel) y_Duo_62 (Nat.le_of_ble_eq_true rfl) ?_
    show Ev (d + 1) M_Duo_spanAt 0 0 41 [(2, v0), (2, v1), (0, v2), (0, v3), (0, v4), (0, v5), (0, x2)] [(0, zmax v3 x2)] kd m3 (zqI kd q)
    refine EvX.blk (pc' := 46) [(.istore_n 3, 0, 0), (.iload 4, 0, 0), (.iload 6, 0, 0)] (by decide +kernel) trivial ?_
    show Ev (d + 1) M_Duo_spanAt 0 0 46 [(2, v0), (2, v1), (0, v2), (0, zmax v3 x2), (0, v4), (0, v5), (0, x2)] [(0, x2), (0, v4)] kd m3 (zqI kd q)
    refine EvX.mmin' (by decide +kernel) y_Duo_68 (Nat.le_of_ble_eq_true rfl) ?_
    show Ev (d + 1) M_Duo_spanAt 0 0 49 [(2, v0), (2, v1), (0, v2), (0, zmax v3 x2), (0, v4), (0, v5), (0, x2)] [(0, zmin v4 x2)] kd m3 (zqI kd q)
    refine EvX.blk (pc' := 54) [(.istore 4, 0, 0), (.iinc 5 1, 0, 0)] (by decide +kernel) trivial ?_
    show Ev (d + 1) M_Duo_spanAt 0 0 54 [(2, v0), (2, v1), (0, v2), (0, zmax v3 x2), (0, zmin v4 x2), (0, iw (v5 + 1)), (0, x2)] [] kd m3 (zqI kd q)
    refine EvX.goto (off := (-39)) (tgt := 15) (by decide +kernel) (by decide) ?_
    exact EvX.weak (ls2 := [(2, v0), (2, v1), (0, v2), (0, zmax v3 x2), (0, zmin v4 x2), (0, iw (v5 + 1)), zJ]) (zwk_of ⟨Or.inr rfl, Or.inr rfl, Or.inr rfl, Or.inr rfl, Or.inr rfl, Or.inr rfl, Or.inl rfl, trivial⟩) h
set_option maxRecDepth 20000 in
set_option maxHeartbeats 1000000 in
theorem T_Duo_answerBest_0 {d : Nat} {kd : ZK} {m : ZM} {q : Int → ZM → Prop} {v0 v1 v2 : Int} (h : (Ev (d + 1) M_Duo_answerBest 0 0 5 [(2, v0), (2, v1), (0, v2), (0, 0), (0, 0), zJ, zJ, zJ] [] kd m (zqI kd q))) : Ev (d + 1) M_Duo_answerBest 0 0 0 [(2, v0), (2, v1), (0, v2), zJ, zJ, zJ, zJ, zJ] [] kd m (zqI kd q) := by
  refine EvX.blk (pc' := 5) [(.iconst 0, 0, 0), (.istore_n 3, 0, 0), (.iconst 0, 0, 0), (.istore 4, 0, 0)] (by decide +kernel) trivial ?_
  show Ev (d + 1) M_Duo_answerBest 0 0 5 [(2, v0), (2, v1), (0, v2), (0, 0), (0, 0), zJ, zJ, zJ] [] kd m (zqI kd q)
  exact h
theorem S_Duo_answerBest {d : Nat} {kd : ZK} {m : ZM} {q : Int → ZM → Prop} {v0 v1 v2 : Int} (h : (Ev (d + 1) M_Duo_answerBest 0 0 5 [(2, v0), (2, v1), (0, v2), (0, 0), (0, 0), zJ, zJ, zJ] [] kd m (zqI kd q))) : CtI (d + 1) M_Duo_answerBest [(2, v0), (2, v1), (0, v2)] kd m q :=
  Ct.start k_Duo_answerBest (Nat.le_of_ble_eq_true rfl) ⟨1, Or.inr (Or.inl ⟨rfl, rfl⟩)⟩ (T_Duo_answerBest_0 h)
set_option maxRecDepth 20000 in
set_option maxHeartbeats 1000000 in
theorem T_Duo_answerBest_5 {d : Nat} {kd : ZK} {m : ZM} {q : Int → ZM → Prop} {v0 v1 v2 v3 v4 : Int} (h : (zobj kd v1 1 ∧ ∃ q1, CtI d M_Game_questionsOf [(2, v1), (0, v2)] kd m q1 ∧ ∀ x2 m3, q1 x2 m3 → ((x2 ≤ v4 → q v3 m3) ∧ (¬ x2 ≤ v4 → (Ev (d + 1) M_Duo_answerBest 0 0 21 [(2, v0), (2, v1), (0, v2), (0, v3), (0, v4), (0, (-1)), (0, 0), zJ] [] kd m3 (zqI kd q)))))) : Ev (d + 1) M_Duo_answerBest 0 0 5 [(2, v0), (2, v1), (0, v2), (0, v3), (0, v4), zJ, zJ, zJ] [] kd m (zqI kd q) := by
  refine EvX.blk (pc' := 9) [(.iload 4, 0, 0), (.aload_n 1, 0, 0), (.iload_n 2, 0, 0)] (by decide +kernel) trivial ?_
  show Ev (d + 1) M_Duo_answerBest 0 0 9 [(2, v0), (2, v1), (0, v2), (0, v3), (0, v4), zJ, zJ, zJ] [(0, v2), (2, v1), (0, v4)] kd m (zqI kd q)
  obtain ⟨ov, h⟩ := h
  obtain ⟨q1, hq, h⟩ := h
  refine EvX.callV (c := 1) (mc := 0) (ms := 0) (as := [(0, v2)]) (st := [(0, v4)]) (by decide +kernel) l_Duo_35 k_Game_questionsOf v_Game_questionsOf a_Game_questionsOf (by decide) (Nat.le_of_ble_eq_true rfl) rfl ov hq (fun r kd1 m3 hr => ?_)
  obtain ⟨x2, rfl, hk, hr⟩ := hr
  subst kd1
  have h := h x2 m3 hr
  show Ev (d + 1) M_Duo_answerBest 0 0 12 [(2, v0), (2, v1), (0, v2), (0, v3), (0, v4), zJ, zJ, zJ] [(0, x2), (0, v4)] kd m3 (zqI kd q)
  refine EvX.icmp_ge (off := 68) (tgt := 80) (by decide +kernel) (by decide) (fun hc => ?_) (fun hc => ?_)
  · have h := h.1 hc
    refine EvX.blk (pc' := 81) [(.iload_n 3, 0, 0)] (by decide +kernel) trivial ?_
    show Ev (d + 1) M_Duo_answerBest 0 0 81 [(2, v0), (2, v1), (0, v2), (0, v3), (0, v4), zJ, zJ, zJ] [(0, v3)] kd m3 (zqI kd q)
    exact EvX.ret (r := (0, v3)) (by decide +kernel) rfl ⟨_, rfl, rfl, h⟩
  · have h := h.2 hc
    refine EvX.blk (pc' := 21) [(.iconst (-1), 0, 0), (.istore 5, 0, 0), (.iconst 0, 0, 0), (.istore 6, 0, 0)] (by decide +kernel) trivial ?_
    show Ev (d + 1) M_Duo_answerBest 0 0 21 [(2, v0), (2, v1), (0, v2), (0, v3), (0, v4), (0, (-1)), (0, 0), zJ] [] kd m3 (zqI kd q)
    exact h
set_option maxRecDepth 20000 in
set_option maxHeartbeats 1000000 in
theorem T_Duo_answerBest_21 {d : Nat} {kd : ZK} {m : ZM} {q : Int → ZM → Prop} {v0 v1 v2 v3 v4 v5 v6 : Int} (h : (zobj kd v1 1 ∧ ∃ q1, CtI d M_Game_answersOf [(2, v1), (0, v2)] kd m q1 ∧ ∀ x2 m3, q1 x2 m3 → ((x2 ≤ v6 → (Ev (d + 1) M_Duo_answerBest 0 0 5 [(2, v0), (2, v1), (0, v2), (0, iw (v3 + v5)), (0, iw (v4 + 1)), zJ, zJ, zJ] [] kd m3 (zqI kd q))) ∧ (¬ x2 ≤ v6 → (zobj kd v0 0 ∧ ∃ q4, CtI d M_Duo_worthAt [(2, v0), (2, v1), (0, v2), (0, v4), (0, v6)] kd m3 q4 ∧ ∀ x5 m6, q4 x5 m6 → ((x5 ≤ v5 → (Ev (d + 1) M_Duo_answerBest 0 0 21 [(2, v0), (2, v1), (0, v2), (0, v3), (0, v4), (0, v5), (0, iw (v6 + 1)), zJ] [] kd m6 (zqI kd q))) ∧ (¬ x5 ≤ v5 → (zobj kd v0 0 ∧ zIn kd (m6 v0 2) 0 v4 ∧ (Ev (d + 1) M_Duo_answerBest 0 0 21 [(2, v0), (2, v1), (0, v2), (0, v3), (0, v4), (0, x5), (0, iw (v6 + 1)), zJ] [] kd (zup m6 (m6 v0 2) v4 v6) (zqI kd q)))))))))) : Ev (d + 1) M_Duo_answerBest 0 0 21 [(2, v0), (2, v1), (0, v2), (0, v3), (0, v4), (0, v5), (0, v6), zJ] [] kd m (zqI kd q) := by
  refine EvX.blk (pc' := 25) [(.iload 6, 0, 0), (.aload_n 1, 0, 0), (.iload_n 2, 0, 0)] (by decide +kernel) trivial ?_
  show Ev (d + 1) M_Duo_answerBest 0 0 25 [(2, v0), (2, v1), (0, v2), (0, v3), (0, v4), (0, v5), (0, v6), zJ] [(0, v2), (2, v1), (0, v6)] kd m (zqI kd q)
  obtain ⟨ov, h⟩ := h
  obtain ⟨q1, hq, h⟩ := h
  refine EvX.callV (c := 1) (mc := 0) (ms := 0) (as := [(0, v2)]) (st := [(0, v6)]) (by decide +kernel) l_Duo_71 k_Game_answersOf v_Game_answersOf a_Game_answersOf (by decide) (Nat.le_of_ble_eq_true rfl) rfl ov hq (fun r kd1 m3 hr => ?_)
  obtain ⟨x2, rfl, hk, hr⟩ := hr
  subst kd1
  have h := h x2 m3 hr
  show Ev (d + 1) M_Duo_answerBest 0 0 28 [(2, v0), (2, v1), (0, v2), (0, v3), (0, v4), (0, v5), (0, v6), zJ] [(0, x2), (0, v6)] kd m3 (zqI kd q)
  refine EvX.icmp_ge (off := 41) (tgt := 69) (by decide +kernel) (by decide) (fun hc => ?_) (fun hc => ?_)
  · have h := h.1 hc
    refine EvX.blk (pc' := 77) [(.iload_n 3, 0, 0), (.iload 5, 0, 0), (.iadd, 0, 0), (.istore_n 3, 0, 0), (.iinc 4 1, 0, 0)] (by decide +kernel) trivial ?_
    show Ev (d + 1) M_Duo_answerBest 0 0 77 [(2, v0), (2, v1), (0, v2), (0, iw (v3 + v5)), (0, iw (v4 + 1)), (0, v5), (0, v6), zJ] [] kd m3 (zqI kd q)
    refine EvX.goto (off := (-72)) (tgt := 5) (by decide +kernel) (by decide) ?_
    exact EvX.weak (ls2 := [(2, v0), (2, v1), (0, v2), (0, iw (v3 + v5)), (0, iw (v4 + 1)), zJ, zJ, zJ]) (zwk_of ⟨Or.inr rfl, Or.inr rfl, Or.inr rfl, Or.inr rfl, Or.inr rfl, Or.inl rfl, Or.inl rfl, Or.inl rfl, trivial⟩) h
  · have h := h.2 hc
    refine EvX.blk (pc' := 38) [(.aload_n 0, 0, 0), (.aload_n 1, 0, 0), (.iload_n 2, 0, 0), (.iload 4, 0, 0), (.iload 6, 0, 0)] (by decide +kernel) trivial ?_
    show Ev (d + 1) M_Duo_answerBest 0 0 38 [(2, v0), (2, v1), (0, v2), (0, v3), (0, v4), (0, v5), (0, v6), zJ] [(0, v6), (0, v4), (0, v2), (2, v1), (2, v0)] kd m3 (zqI kd q)
    obtain ⟨ov, h⟩ := h
    obtain ⟨q4, hq, h⟩ := h
    refine EvX.callV (c := 0) (mc := 0) (ms := 0) (as := [(2, v1), (0, v2), (0, v4), (0, v6)]) (st := []) (by decide +kernel) l_Duo_51 k_Duo_worthAt v_Duo_worthAt a_Duo_worthAt (by decide) (Nat.le_of_ble_eq_true rfl) rfl ov hq (fun r kd1 m6 hr => ?_)
    obtain ⟨x5, rfl, hk, hr⟩ := hr
    subst kd1
    have h := h x5 m6 hr
    show Ev (d + 1) M_Duo_answerBest 0 0 41 [(2, v0), (2, v1), (0, v2), (0, v3), (0, v4), (0, v5), (0, v6), zJ] [(0, x5)] kd m6 (zqI kd q)
    refine EvX.blk (pc' := 47) [(.istore 7, 0, 0), (.iload 7, 0, 0), (.iload 5, 0, 0)] (by decide +kernel) trivial ?_
    show Ev (d + 1) M_Duo_answerBest 0 0 47 [(2, v0), (2, v1), (0, v2), (0, v3), (0, v4), (0, v5), (0, v6), (0, x5)] [(0, v5), (0, x5)] kd m6 (zqI kd q)
    refine EvX.icmp_le (off := 16) (tgt := 63) (by decide +kernel) (by decide) (fun hc => ?_) (fun hc => ?_)
    · have h := h.1 hc
      refine EvX.blk (pc' := 66) [(.iinc 6 1, 0, 0)] (by decide +kernel) trivial ?_
      show Ev (d + 1) M_Duo_answerBest 0 0 66 [(2, v0), (2, v1), (0, v2), (0, v3), (0, v4), (0, v5), (0, iw (v6 + 1)), (0, x5)] [] kd m6 (zqI kd q)
      refine EvX.goto (off := (-45)) (tgt := 21) (by decide +kernel) (by decide) ?_
      exact EvX.weak (ls2 := [(2, v0), (2, v1), (0, v2), (0, v3), (0, v4), (0, v5), (0, iw (v6 + 1)), zJ]) (zwk_of ⟨Or.inr rfl, Or.inr rfl, Or.inr rfl, Or.inr rfl, Or.inr rfl, Or.inr rfl, Or.inr rfl, Or.inl rfl, trivial⟩) h
    · have h := h.2 hc
      obtain ⟨o1, o2, h⟩ := h
      refine EvX.blk (pc' := 66) [(.iload 7, 0, 0), (.istore 5, 0, 0), (.aload_n 0, 0, 0), (.getfield 18, 0, 2), (.iload 4, 0, 0), (.iload 6, 0, 0), (.iastore, 0, 0), (.iinc 6 1, 0, 0)] (by decide +kernel) ⟨g_Duo_18, trivial⟩ ⟨o1, o2, ?_⟩
      show Ev (d + 1) M_Duo_answerBest 0 0 66 [(2, v0), (2, v1), (0, v2), (0, v3), (0, v4), (0, x5), (0, iw (v6 + 1)), (0, x5)] [] kd (zup m6 (m6 v0 2) v4 v6) (zqI kd q)
      refine EvX.goto (off := (-45)) (tgt := 21) (by decide +kernel) (by decide) ?_
      exact EvX.weak (ls2 := [(2, v0), (2, v1), (0, v2), (0, v3), (0, v4), (0, x5), (0, iw (v6 + 1)), zJ]) (zwk_of ⟨Or.inr rfl, Or.inr rfl, Or.inr rfl, Or.inr rfl, Or.inr rfl, Or.inr rfl, Or.inr rfl, Or.inl rfl, trivial⟩) h
set_option maxRecDepth 20000 in
set_option maxHeartbeats 1000000 in
theorem T_Duo_climbUp_0 {d : Nat} {kd : ZK} {m : ZM} {q : Int → ZM → Prop} {v0 v1 : Int} (h : (zobj kd v0 0 ∧ ∃ q1, CtI d M_Duo_worthBoth [(2, v0), (2, v1)] kd m q1 ∧ ∀ x2 m3, q1 x2 m3 → (Ev (d + 1) M_Duo_climbUp 0 0 17 [(2, v0), (2, v1), (0, x2), (0, 0), (0, 0), (0, 1), (0, 0), zJ] [] kd m3 (zqI kd q)))) : Ev (d + 1) M_Duo_climbUp 0 0 0 [(2, v0), (2, v1), zJ, zJ, zJ, zJ, zJ, zJ] [] kd m (zqI kd q) := by
  refine EvX.blk (pc' := 2) [(.aload_n 0, 0, 0), (.aload_n 1, 0, 0)] (by decide +kernel) trivial ?_
  show Ev (d + 1) M_Duo_climbUp 0 0 2 [(2, v0), (2, v1), zJ, zJ, zJ, zJ, zJ, zJ] [(2, v1), (2, v0)] kd m (zqI kd q)
  obtain ⟨ov, h⟩ := h
  obtain ⟨q1, hq, h⟩ := h
  refine EvX.callV (c := 0) (mc := 0) (ms := 0) (as := [(2, v1)]) (st := []) (by decide +kernel) l_Duo_74 k_Duo_worthBoth v_Duo_worthBoth a_Duo_worthBoth (by decide) (Nat.le_of_ble_eq_true rfl) rfl ov hq (fun r kd1 m3 hr => ?_)
  obtain ⟨x2, rfl, hk, hr⟩ := hr
  subst kd1
  have h := h x2 m3 hr
  show Ev (d + 1) M_Duo_climbUp 0 0 5 [(2, v0), (2, v1), zJ, zJ, zJ, zJ, zJ, zJ] [(0, x2)] kd m3 (zqI kd q)
  refine EvX.blk (pc' := 17) [(.istore_n 2, 0, 0), (.iconst 0, 0, 0), (.istore_n 3, 0, 0), (.iconst 0, 0, 0), (.istore 4, 0, 0), (.iconst 1, 0, 0), (.istore 5, 0, 0), (.iconst 0, 0, 0), (.istore 6, 0, 0)] (by decide +kernel) trivial ?_
  show Ev (d + 1) M_Duo_climbUp 0 0 17 [(2, v0), (2, v1), (0, x2), (0, 0), (0, 0), (0, 1), (0, 0), zJ] [] kd m3 (zqI kd q)
  exact h
theorem S_Duo_climbUp {d : Nat} {kd : ZK} {m : ZM} {q : Int → ZM → Prop} {v0 v1 : Int} (h : (zobj kd v0 0 ∧ ∃ q1, CtI d M_Duo_worthBoth [(2, v0), (2, v1)] kd m q1 ∧ ∀ x2 m3, q1 x2 m3 → (Ev (d + 1) M_Duo_climbUp 0 0 17 [(2, v0), (2, v1), (0, x2), (0, 0), (0, 0), (0, 1), (0, 0), zJ] [] kd m3 (zqI kd q)))) : CtI (d + 1) M_Duo_climbUp [(2, v0), (2, v1)] kd m q :=
  Ct.start k_Duo_climbUp (Nat.le_of_ble_eq_true rfl) ⟨1, Or.inr (Or.inl ⟨rfl, rfl⟩)⟩ (T_Duo_climbUp_0 h)
set_option maxRecDepth 20000 in
set_option maxHeartbeats 1000000 in
theorem T_Duo_climbUp_17 {d : Nat} {kd : ZK} {m : ZM} {q : Int → ZM → Prop} {v0 v1 v2 v3 v4 v5 v6 : Int} (h : ((1000 ≤ v6 → q v3 m) ∧ (¬ 1000 ≤ v6 → ((2 ≤ v4 → q v3 m) ∧ (¬ 2 ≤ v4 → (zobj kd v0 0 ∧ ∃ q1, CtI d M_Duo_answerBest [(2, v0), (2, v1), (0, v5)] kd m q1 ∧ ∀ x2 m3, q1 x2 m3 → ((x2 ≤ v2 → (Ev (d + 1) M_Duo_climbUp 0 0 17 [(2, v0), (2, v1), (0, v2), (0, v3), (0, iw (v4 + 1)), (0, iw (1 - v5)), (0, iw (v6 + 1)), zJ] [] kd m3 (zqI kd q))) ∧ (¬ x2 ≤ v2 → (zobj kd v0 0 ∧ (zobj kd v0 0 ∧ ∃ q4, CtR d M_Duo_answersBy [(2, v0), (0, v5)] kd m3 q4 ∧ ∀ x5 m6, q4 x5 m6 → (∃ nb na : Nat, zarr kd (m3 v0 2) 0 nb ∧ zarr kd x5 0 na ∧ (0 : Int) ≤ 0 ∧ (0 : Int) ≤ 0 ∧ (0 : Int) ≤ 5 ∧ (0 : Int) + 5 ≤ (nb : Int) ∧ (0 : Int) + 5 ≤ (na : Int) ∧ (Ev (d + 1) M_Duo_climbUp 0 0 17 [(2, v0), (2, v1), (0, x2), (0, iw (v3 + 1)), (0, 0), (0, iw (1 - v5)), (0, iw (v6 + 1)), zJ] [] kd (zcpy m6 (m3 v0 2) 0 x5 0 5) (zqI kd q))))))))))))) : Ev (d + 1) M_Duo_climbUp 0 0 17 [(2, v0), (2, v1), (0, v2), (0, v3), (0, v4), (0, v5), (0, v6), zJ] [] kd m (zqI kd q) := by
  refine EvX.blk (pc' := 22) [(.iload 6, 0, 0), (.sipush 1000, 0, 0)] (by decide +kernel) trivial ?_
  show Ev (d + 1) M_Duo_climbUp 0 0 22 [(2, v0), (2, v1), (0, v2), (0, v3), (0, v4), (0, v5), (0, v6), zJ] [(0, 1000), (0, v6)] kd m (zqI kd q)
  refine EvX.icmp_ge (off := 67) (tgt := 89) (by decide +kernel) (by decide) (fun hc => ?_) (fun hc => ?_)
  · have h := h.1 hc
    refine EvX.blk (pc' := 90) [(.iload_n 3, 0, 0)] (by decide +kernel) trivial ?_
    show Ev (d + 1) M_Duo_climbUp 0 0 90 [(2, v0), (2, v1), (0, v2), (0, v3), (0, v4), (0, v5), (0, v6), zJ] [(0, v3)] kd m (zqI kd q)
    exact EvX.ret (r := (0, v3)) (by decide +kernel) rfl ⟨_, rfl, rfl, h⟩
  · have h := h.2 hc
    refine EvX.blk (pc' := 28) [(.iload 4, 0, 0), (.iconst 2, 0, 0)] (by decide +kernel) trivial ?_
    show Ev (d + 1) M_Duo_climbUp 0 0 28 [(2, v0), (2, v1), (0, v2), (0, v3), (0, v4), (0, v5), (0, v6), zJ] [(0, 2), (0, v4)] kd m (zqI kd q)
    refine EvX.icmp_ge (off := 61) (tgt := 89) (by decide +kernel) (by decide) (fun hc => ?_) (fun hc => ?_)
    · have h := h.1 hc
      refine EvX.blk (pc' := 90) [(.iload_n 3, 0, 0)] (by decide +kernel) trivial ?_
      show Ev (d + 1) M_Duo_climbUp 0 0 90 [(2, v0), (2, v1), (0, v2), (0, v3), (0, v4), (0, v5), (0, v6), zJ] [(0, v3)] kd m (zqI kd q)
      exact EvX.ret (r := (0, v3)) (by decide +kernel) rfl ⟨_, rfl, rfl, h⟩
    · have h := h.2 hc
      refine EvX.blk (pc' := 35) [(.aload_n 0, 0, 0), (.aload_n 1, 0, 0), (.iload 5, 0, 0)] (by decide +kernel) trivial ?_
      show Ev (d + 1) M_Duo_climbUp 0 0 35 [(2, v0), (2, v1), (0, v2), (0, v3), (0, v4), (0, v5), (0, v6), zJ] [(0, v5), (2, v1), (2, v0)] kd m (zqI kd q)
      obtain ⟨ov, h⟩ := h
      obtain ⟨q1, hq, h⟩ := h
      refine EvX.callV (c := 0) (mc := 0) (ms := 0) (as := [(2, v1), (0, v5)]) (st := []) (by decide +kernel) l_Duo_78 k_Duo_answerBest v_Duo_answerBest a_Duo_answerBest (by decide) (Nat.le_of_ble_eq_true rfl) rfl ov hq (fun r kd1 m3 hr => ?_)
      obtain ⟨x2, rfl, hk, hr⟩ := hr
      subst kd1
      have h := h x2 m3 hr
      show Ev (d + 1) M_Duo_climbUp 0 0 38 [(2, v0), (2, v1), (0, v2), (0, v3), (0, v4), (0, v5), (0, v6), zJ] [(0, x2)] kd m3 (zqI kd q)
      refine EvX.blk (pc' := 43) [(.istore 7, 0, 0), (.iload 7, 0, 0), (.iload_n 2, 0, 0)] (by decide +kernel) trivial ?_
      show Ev (d + 1) M_Duo_climbUp 0 0 43 [(2, v0), (2, v1), (0, v2), (0, v3), (0, v4), (0, v5), (0, v6), (0, x2)] [(0, v2), (0, x2)] kd m3 (zqI kd q)
      refine EvX.icmp_le (off := 31) (tgt := 74) (by decide +kernel) (by decide) (fun hc => ?_) (fun hc => ?_)
      · have h := h.1 hc
        refine EvX.blk (pc' := 86) [(.iinc 4 1, 0, 0), (.iconst 1, 0, 0), (.iload 5, 0, 0), (.isub, 0, 0), (.istore 5, 0, 0), (.iinc 6 1, 0, 0)] (by decide +kernel) trivial ?_
        show Ev (d + 1) M_Duo_climbUp 0 0 86 [(2, v0), (2, v1), (0, v2), (0, v3), (0, iw (v4 + 1)), (0, iw (1 - v5)), (0, iw (v6 + 1)), (0, x2)] [] kd m3 (zqI kd q)
        refine EvX.goto (off := (-69)) (tgt := 17) (by decide +kernel) (by decide) ?_
        exact EvX.weak (ls2 := [(2, v0), (2, v1), (0, v2), (0, v3), (0, iw (v4 + 1)), (0, iw (1 - v5)), (0, iw (v6 + 1)), zJ]) (zwk_of ⟨Or.inr rfl, Or.inr rfl, Or.inr rfl, Or.inr rfl, Or.inr rfl, Or.inr rfl, Or.inr rfl, Or.inl rfl, trivial⟩) h
      · have h := h.2 hc
        obtain ⟨o1, h⟩ := h
        refine EvX.blk (pc' := 54) [(.aload_n 0, 0, 0), (.getfield 18, 0, 2), (.iconst 0, 0, 0), (.aload_n 0, 0, 0), (.iload 5, 0, 0)] (by decide +kernel) ⟨g_Duo_18, trivial⟩ ⟨o1, ?_⟩
        show Ev (d + 1) M_Duo_climbUp 0 0 54 [(2, v0), (2, v1), (0, v2), (0, v3), (0, v4), (0, v5), (0, v6), (0, x2)] [(0, v5), (2, v0), (0, 0), (2, m3 v0 2)] kd m3 (zqI kd q)
        obtain ⟨ov, h⟩ := h
        obtain ⟨q4, hq, h⟩ := h
        refine EvX.callV (c := 0) (mc := 0) (ms := 0) (as := [(0, v5)]) (st := [(0, 0), (2, m3 v0 2)]) (by decide +kernel) l_Duo_25 k_Duo_answersBy v_Duo_answersBy a_Duo_answersBy (by decide) (Nat.le_of_ble_eq_true rfl) rfl ov hq (fun r kd1 m6 hr => ?_)
        obtain ⟨x5, rfl, hk, hr⟩ := hr
        subst kd1
        have h := h x5 m6 hr
        show Ev (d + 1) M_Duo_climbUp 0 0 57 [(2, v0), (2, v1), (0, v2), (0, v3), (0, v4), (0, v5), (0, v6), (0, x2)] [(2, x5), (0, 0), (2, m3 v0 2)] kd m6 (zqI kd q)
        refine EvX.blk (pc' := 59) [(.iconst 0, 0, 0), (.iconst 5, 0, 0)] (by decide +kernel) trivial ?_
        show Ev (d + 1) M_Duo_climbUp 0 0 59 [(2, v0), (2, v1), (0, v2), (0, v3), (0, v4), (0, v5), (0, v6), (0, x2)] [(0, 5), (0, 0), (2, x5), (0, 0), (2, m3 v0 2)] kd m6 (zqI kd q)
        obtain ⟨nb, na, ob, oa, o1, o2, o3, o4, o5, h⟩ := h
        refine EvX.acopy' (by decide +kernel) y_Duo_82 ob oa o1 o2 o3 o4 o5 (Nat.le_of_ble_eq_true rfl) ?_
        show Ev (d + 1) M_Duo_climbUp 0 0 62 [(2, v0), (2, v1), (0, v2), (0, v3), (0, v4), (0, v5), (0, v6), (0, x2)] [] kd (zcpy m6 (m3 v0 2) 0 x5 0 5) (zqI kd q)
        refine EvX.blk (pc' := 71) [(.iload 7, 0, 0), (.istore_n 2, 0, 0), (.iinc 3 1, 0, 0), (.iconst 0, 0, 0), (.istore 4, 0, 0)] (by decide +kernel) trivial ?_
        show Ev (d + 1) M_Duo_climbUp 0 0 71 [(2, v0), (2, v1), (0, x2), (0, iw (v3 + 1)), (0, 0), (0, v5), (0, v6), (0, x2)] [] kd (zcpy m6 (m3 v0 2) 0 x5 0 5) (zqI kd q)
        refine EvX.goto (off := 6) (tgt := 77) (by decide +kernel) (by decide) ?_
        refine EvX.blk (pc' := 86) [(.iconst 1, 0, 0), (.iload 5, 0, 0), (.isub, 0, 0), (.istore 5, 0, 0), (.iinc 6 1, 0, 0)] (by decide +kernel) trivial ?_
        show Ev (d + 1) M_Duo_climbUp 0 0 86 [(2, v0), (2, v1), (0, x2), (0, iw (v3 + 1)), (0, 0), (0, iw (1 - v5)), (0, iw (v6 + 1)), (0, x2)] [] kd (zcpy m6 (m3 v0 2) 0 x5 0 5) (zqI kd q)
        refine EvX.goto (off := (-69)) (tgt := 17) (by decide +kernel) (by decide) ?_
        exact EvX.weak (ls2 := [(2, v0), (2, v1), (0, x2), (0, iw (v3 + 1)), (0, 0), (0, iw (1 - v5)), (0, iw (v6 + 1)), zJ]) (zwk_of ⟨Or.inr rfl, Or.inr rfl, Or.inr rfl, Or.inr rfl, Or.inr rfl, Or.inr rfl, Or.inr rfl, Or.inl rfl, trivial⟩) h
set_option maxRecDepth 20000 in
set_option maxHeartbeats 1000000 in
theorem T_Duo_greatestBox_0 {d : Nat} {kd : ZK} {m : ZM} {q : Int → ZM → Prop} {v0 v1 : Int} (h : (Ev (d + 1) M_Duo_greatestBox 0 0 4 [(2, v0), (2, v1), (0, 0), (0, 0), zJ] [] kd m (zqI kd q))) : Ev (d + 1) M_Duo_greatestBox 0 0 0 [(2, v0), (2, v1), zJ, zJ, zJ] [] kd m (zqI kd q) := by
  refine EvX.blk (pc' := 4) [(.iconst 0, 0, 0), (.istore_n 2, 0, 0), (.iconst 0, 0, 0), (.istore_n 3, 0, 0)] (by decide +kernel) trivial ?_
  show Ev (d + 1) M_Duo_greatestBox 0 0 4 [(2, v0), (2, v1), (0, 0), (0, 0), zJ] [] kd m (zqI kd q)
  exact h
theorem S_Duo_greatestBox {d : Nat} {kd : ZK} {m : ZM} {q : Int → ZM → Prop} {v0 v1 : Int} (h : (Ev (d + 1) M_Duo_greatestBox 0 0 4 [(2, v0), (2, v1), (0, 0), (0, 0), zJ] [] kd m (zqI kd q))) : CtI (d + 1) M_Duo_greatestBox [(2, v0), (2, v1)] kd m q :=
  Ct.start k_Duo_greatestBox (Nat.le_of_ble_eq_true rfl) ⟨1, Or.inr (Or.inl ⟨rfl, rfl⟩)⟩ (T_Duo_greatestBox_0 h)
set_option maxRecDepth 20000 in
set_option maxHeartbeats 1000000 in
theorem T_Duo_greatestBox_4 {d : Nat} {kd : ZK} {m : ZM} {q : Int → ZM → Prop} {v0 v1 v2 v3 : Int} (h : (zobj kd v1 1 ∧ (((m v1 0) ≤ v3 → q v2 m) ∧ (¬ (m v1 0) ≤ v3 → (Ev (d + 1) M_Duo_greatestBox 0 0 15 [(2, v0), (2, v1), (0, v2), (0, v3), (0, 0)] [] kd m (zqI kd q)))))) : Ev (d + 1) M_Duo_greatestBox 0 0 4 [(2, v0), (2, v1), (0, v2), (0, v3), zJ] [] kd m (zqI kd q) := by
  obtain ⟨o1, h⟩ := h
  refine EvX.blk (pc' := 9) [(.iload_n 3, 0, 0), (.aload_n 1, 0, 0), (.getfield 47, 1, 0)] (by decide +kernel) ⟨g_Duo_47, trivial⟩ ⟨o1, ?_⟩
  show Ev (d + 1) M_Duo_greatestBox 0 0 9 [(2, v0), (2, v1), (0, v2), (0, v3), zJ] [(0, m v1 0), (0, v3)] kd m (zqI kd q)
  refine EvX.icmp_ge (off := 57) (tgt := 66) (by decide +kernel) (by decide) (fun hc => ?_) (fun hc => ?_)
  · have h := h.1 hc
    refine EvX.blk (pc' := 67) [(.iload_n 2, 0, 0)] (by decide +kernel) trivial ?_
    show Ev (d + 1) M_Duo_greatestBox 0 0 67 [(2, v0), (2, v1), (0, v2), (0, v3), zJ] [(0, v2)] kd m (zqI kd q)
    exact EvX.ret (r := (0, v2)) (by decide +kernel) rfl ⟨_, rfl, rfl, h⟩
  · have h := h.2 hc
    refine EvX.blk (pc' := 15) [(.iconst 0, 0, 0), (.istore 4, 0, 0)] (by decide +kernel) trivial ?_
    show Ev (d + 1) M_Duo_greatestBox 0 0 15 [(2, v0), (2, v1), (0, v2), (0, v3), (0, 0)] [] kd m (zqI kd q)
    exact h
set_option maxRecDepth 20000 in
set_option maxHeartbeats 1000000 in
theorem T_Duo_greatestBox_15 {d : Nat} {kd : ZK} {m : ZM} {q : Int → ZM → Prop} {v0 v1 v2 v3 v4 : Int} (h : (zobj kd v1 1 ∧ (((m v1 1) ≤ v4 → (Ev (d + 1) M_Duo_greatestBox 0 0 4 [(2, v0), (2, v1), (0, v2), (0, iw (v3 + 1)), zJ] [] kd m (zqI kd q))) ∧ (¬ (m v1 1) ≤ v4 → (zobj kd v1 1 ∧ zobj kd v0 0 ∧ zIn kd (m v0 0) 0 v3 ∧ zobj kd v0 0 ∧ zIn kd (m v0 1) 0 v4 ∧ (∃ q1, CtI d M_Ap_spotOf [(0, 0), (0, v3), (0, v4), (0, m (m v0 0) v3), (0, m (m v0 1) v4)] kd m q1 ∧ ∀ x2 m3, q1 x2 m3 → (zIn kd (m v1 6) 0 x2 ∧ (Ev (d + 1) M_Duo_greatestBox 0 0 15 [(2, v0), (2, v1), (0, zmax v2 (m3 (m v1 6) x2)), (0, v3), (0, iw (v4 + 1))] [] kd m3 (zqI kd q))))))))) : Ev (d + 1) M_Duo_greatestBox 0 0 15 [(2, v0), (2, v1), (0, v2), (0, v3), (0, v4)] [] kd m (zqI kd q) := by
  obtain ⟨o1, h⟩ := h
  refine EvX.blk (pc' := 21) [(.iload 4, 0, 0), (.aload_n 1, 0, 0), (.getfield 88, 1, 1)] (by decide +kernel) ⟨g_Duo_88, trivial⟩ ⟨o1, ?_⟩
  show Ev (d + 1) M_Duo_greatestBox 0 0 21 [(2, v0), (2, v1), (0, v2), (0, v3), (0, v4)] [(0, m v1 1), (0, v4)] kd m (zqI kd q)
  refine EvX.icmp_ge (off := 39) (tgt := 60) (by decide +kernel) (by decide) (fun hc => ?_) (fun hc => ?_)
  · have h := h.1 hc
    refine EvX.blk (pc' := 63) [(.iinc 3 1, 0, 0)] (by decide +kernel) trivial ?_
    show Ev (d + 1) M_Duo_greatestBox 0 0 63 [(2, v0), (2, v1), (0, v2), (0, iw (v3 + 1)), (0, v4)] [] kd m (zqI kd q)
    refine EvX.goto (off := (-59)) (tgt := 4) (by decide +kernel) (by decide) ?_
    exact EvX.weak (ls2 := [(2, v0), (2, v1), (0, v2), (0, iw (v3 + 1)), zJ]) (zwk_of ⟨Or.inr rfl, Or.inr rfl, Or.inr rfl, Or.inr rfl, Or.inl rfl, trivial⟩) h
  · have h := h.2 hc
    obtain ⟨o1, o2, o3, o4, o5, h⟩ := h
    refine EvX.blk (pc' := 46) [(.iload_n 2, 0, 0), (.aload_n 1, 0, 0), (.getfield 91, 1, 6), (.iconst 0, 0, 0), (.iload_n 3, 0, 0), (.iload 4, 0, 0), (.aload_n 0, 0, 0), (.getfield 9, 0, 0), (.iload_n 3, 0, 0), (.iaload, 0, 0), (.aload_n 0, 0, 0), (.getfield 15, 0, 1), (.iload 4, 0, 0), (.iaload, 0, 0)] (by decide +kernel) ⟨g_Duo_91, g_Duo_9, g_Duo_15, trivial⟩ ⟨o1, o2, o3, o4, o5, ?_⟩
    show Ev (d + 1) M_Duo_greatestBox 0 0 46 [(2, v0), (2, v1), (0, v2), (0, v3), (0, v4)] [(0, m (m v0 1) v4), (0, m (m v0 0) v3), (0, v4), (0, v3), (0, 0), (2, m v1 6), (0, v2)] kd m (zqI kd q)
    obtain ⟨q1, hq, h⟩ := h
    refine EvX.callS (mc := 0) (ms := 0) (as := [(0, 0), (0, v3), (0, v4), (0, m (m v0 0) v3), (0, m (m v0 1) v4)]) (st := [(2, m v1 6), (0, v2)]) (by decide +kernel) l_Duo_94 k_Ap_spotOf s_Ap_spotOf a_Ap_spotOf (by decide) (Nat.le_of_ble_eq_true rfl) hq (fun r kd1 m3 hr => ?_)
    obtain ⟨x2, rfl, hk, hr⟩ := hr
    subst kd1
    have h := h x2 m3 hr
    show Ev (d + 1) M_Duo_greatestBox 0 0 49 [(2, v0), (2, v1), (0, v2), (0, v3), (0, v4)] [(0, x2), (2, m v1 6), (0, v2)] kd m3 (zqI kd q)
    obtain ⟨o1, h⟩ := h
    refine EvX.blk (pc' := 50) [(.iaload, 0, 0)] (by decide +kernel) trivial ⟨o1, ?_⟩
    show Ev (d + 1) M_Duo_greatestBox 0 0 50 [(2, v0), (2, v1), (0, v2), (0, v3), (0, v4)] [(0, m3 (m v1 6) x2), (0, v2)] kd m3 (zqI kd q)
    refine EvX.mmax' (by decide +kernel) y_Duo_62 (Nat.le_of_ble_eq_true rfl) ?_
    show Ev (d + 1) M_Duo_greatestBox 0 0 53 [(2, v0), (2, v1), (0, v2), (0, v3), (0, v4)] [(0, zmax v2 (m3 (m v1 6) x2))] kd m3 (zqI kd q)
    refine EvX.blk (pc' := 57) [(.istore_n 2, 0, 0), (.iinc 4 1, 0, 0)] (by decide +kernel) trivial ?_
    show Ev (d + 1) M_Duo_greatestBox 0 0 57 [(2, v0), (2, v1), (0, zmax v2 (m3 (m v1 6) x2)), (0, v3), (0, iw (v4 + 1))] [] kd m3 (zqI kd q)
    refine EvX.goto (off := (-42)) (tgt := 15) (by decide +kernel) (by decide) ?_
    exact h
set_option maxRecDepth 20000 in
set_option maxHeartbeats 1000000 in
theorem T_Duo_addToBoxes_0 {d : Nat} {kd : ZK} {m : ZM} {q : ZM → Prop} {v0 v1 v2 : Int} (h : (Ev (d + 1) M_Duo_addToBoxes 0 0 2 [(2, v0), (2, v1), (0, v2), (0, 0), zJ] [] kd m (zqV kd q))) : Ev (d + 1) M_Duo_addToBoxes 0 0 0 [(2, v0), (2, v1), (0, v2), zJ, zJ] [] kd m (zqV kd q) := by
  refine EvX.blk (pc' := 2) [(.iconst 0, 0, 0), (.istore_n 3, 0, 0)] (by decide +kernel) trivial ?_
  show Ev (d + 1) M_Duo_addToBoxes 0 0 2 [(2, v0), (2, v1), (0, v2), (0, 0), zJ] [] kd m (zqV kd q)
  exact h
theorem S_Duo_addToBoxes {d : Nat} {kd : ZK} {m : ZM} {q : ZM → Prop} {v0 v1 v2 : Int} (h : (Ev (d + 1) M_Duo_addToBoxes 0 0 2 [(2, v0), (2, v1), (0, v2), (0, 0), zJ] [] kd m (zqV kd q))) : CtV (d + 1) M_Duo_addToBoxes [(2, v0), (2, v1), (0, v2)] kd m q :=
  Ct.start k_Duo_addToBoxes (Nat.le_of_ble_eq_true rfl) ⟨0, Or.inl ⟨rfl, rfl⟩⟩ (T_Duo_addToBoxes_0 h)
set_option maxRecDepth 20000 in
set_option maxHeartbeats 1000000 in
theorem T_Duo_addToBoxes_2 {d : Nat} {kd : ZK} {m : ZM} {q : ZM → Prop} {v0 v1 v2 v3 : Int} (h : (zobj kd v1 1 ∧ (((m v1 0) ≤ v3 → q m) ∧ (¬ (m v1 0) ≤ v3 → (Ev (d + 1) M_Duo_addToBoxes 0 0 13 [(2, v0), (2, v1), (0, v2), (0, v3), (0, 0)] [] kd m (zqV kd q)))))) : Ev (d + 1) M_Duo_addToBoxes 0 0 2 [(2, v0), (2, v1), (0, v2), (0, v3), zJ] [] kd m (zqV kd q) := by
  obtain ⟨o1, h⟩ := h
  refine EvX.blk (pc' := 7) [(.iload_n 3, 0, 0), (.aload_n 1, 0, 0), (.getfield 47, 1, 0)] (by decide +kernel) ⟨g_Duo_47, trivial⟩ ⟨o1, ?_⟩
  show Ev (d + 1) M_Duo_addToBoxes 0 0 7 [(2, v0), (2, v1), (0, v2), (0, v3), zJ] [(0, m v1 0), (0, v3)] kd m (zqV kd q)
  refine EvX.icmp_ge (off := 56) (tgt := 63) (by decide +kernel) (by decide) (fun hc => ?_) (fun hc => ?_)
  · have h := h.1 hc
    exact EvX.ret (r := zJ) (by decide +kernel) rfl ⟨rfl, rfl, h⟩
  · have h := h.2 hc
    refine EvX.blk (pc' := 13) [(.iconst 0, 0, 0), (.istore 4, 0, 0)] (by decide +kernel) trivial ?_
    show Ev (d + 1) M_Duo_addToBoxes 0 0 13 [(2, v0), (2, v1), (0, v2), (0, v3), (0, 0)] [] kd m (zqV kd q)
    exact h
set_option maxRecDepth 20000 in
set_option maxHeartbeats 1000000 in
theorem T_Duo_addToBoxes_13 {d : Nat} {kd : ZK} {m : ZM} {q : ZM → Prop} {v0 v1 v2 v3 v4 : Int} (h : (zobj kd v1 1 ∧ (((m v1 1) ≤ v4 → (Ev (d + 1) M_Duo_addToBoxes 0 0 2 [(2, v0), (2, v1), (0, v2), (0, iw (v3 + 1)), zJ] [] kd m (zqV kd q))) ∧ (¬ (m v1 1) ≤ v4 → (zobj kd v1 1 ∧ zobj kd v0 0 ∧ zIn kd (m v0 0) 0 v3 ∧ zobj kd v0 0 ∧ zIn kd (m v0 1) 0 v4 ∧ (∃ q1, CtI d M_Ap_spotOf [(0, 0), (0, v3), (0, v4), (0, m (m v0 0) v3), (0, m (m v0 1) v4)] kd m q1 ∧ ∀ x2 m3, q1 x2 m3 → (zIn kd (m v1 6) 0 x2 ∧ zIn kd (m v1 6) 0 x2 ∧ (Ev (d + 1) M_Duo_addToBoxes 0 0 13 [(2, v0), (2, v1), (0, v2), (0, v3), (0, iw (v4 + 1))] [] kd (zup m3 (m v1 6) x2 (iw ((m3 (m v1 6) x2) + v2))) (zqV kd q))))))))) : Ev (d + 1) M_Duo_addToBoxes 0 0 13 [(2, v0), (2, v1), (0, v2), (0, v3), (0, v4)] [] kd m (zqV kd q) := by
  obtain ⟨o1, h⟩ := h
  refine EvX.blk (pc' := 19) [(.iload 4, 0, 0), (.aload_n 1, 0, 0), (.getfield 88, 1, 1)] (by decide +kernel) ⟨g_Duo_88, trivial⟩ ⟨o1, ?_⟩
  show Ev (d + 1) M_Duo_addToBoxes 0 0 19 [(2, v0), (2, v1), (0, v2), (0, v3), (0, v4)] [(0, m v1 1), (0, v4)] kd m (zqV kd q)
  refine EvX.icmp_ge (off := 38) (tgt := 57) (by decide +kernel) (by decide) (fun hc => ?_) (fun hc => ?_)
  · have h := h.1 hc
    refine EvX.blk (pc' := 60) [(.iinc 3 1, 0, 0)] (by decide +kernel) trivial ?_
    show Ev (d + 1) M_Duo_addToBoxes 0 0 60 [(2, v0), (2, v1), (0, v2), (0, iw (v3 + 1)), (0, v4)] [] kd m (zqV kd q)
    refine EvX.goto (off := (-58)) (tgt := 2) (by decide +kernel) (by decide) ?_
    exact EvX.weak (ls2 := [(2, v0), (2, v1), (0, v2), (0, iw (v3 + 1)), zJ]) (zwk_of ⟨Or.inr rfl, Or.inr rfl, Or.inr rfl, Or.inr rfl, Or.inl rfl, trivial⟩) h
  · have h := h.2 hc
    obtain ⟨o1, o2, o3, o4, o5, h⟩ := h
    refine EvX.blk (pc' := 43) [(.aload_n 1, 0, 0), (.getfield 91, 1, 6), (.iconst 0, 0, 0), (.iload_n 3, 0, 0), (.iload 4, 0, 0), (.aload_n 0, 0, 0), (.getfield 9, 0, 0), (.iload_n 3, 0, 0), (.iaload, 0, 0), (.aload_n 0, 0, 0), (.getfield 15, 0, 1), (.iload 4, 0, 0), (.iaload, 0, 0)] (by decide +kernel) ⟨g_Duo_91, g_Duo_9, g_Duo_15, trivial⟩ ⟨o1, o2, o3, o4, o5, ?_⟩
    show Ev (d + 1) M_Duo_addToBoxes 0 0 43 [(2, v0), (2, v1), (0, v2), (0, v3), (0, v4)] [(0, m (m v0 1) v4), (0, m (m v0 0) v3), (0, v4), (0, v3), (0, 0), (2, m v1 6)] kd m (zqV kd q)
    obtain ⟨q1, hq, h⟩ := h
    refine EvX.callS (mc := 0) (ms := 0) (as := [(0, 0), (0, v3), (0, v4), (0, m (m v0 0) v3), (0, m (m v0 1) v4)]) (st := [(2, m v1 6)]) (by decide +kernel) l_Duo_94 k_Ap_spotOf s_Ap_spotOf a_Ap_spotOf (by decide) (Nat.le_of_ble_eq_true rfl) hq (fun r kd1 m3 hr => ?_)
    obtain ⟨x2, rfl, hk, hr⟩ := hr
    subst kd1
    have h := h x2 m3 hr
    show Ev (d + 1) M_Duo_addToBoxes 0 0 46 [(2, v0), (2, v1), (0, v2), (0, v3), (0, v4)] [(0, x2), (2, m v1 6)] kd m3 (zqV kd q)
    obtain ⟨o1, o2, h⟩ := h
    refine EvX.blk (pc' := 54) [(.dup2, 0, 0), (.iaload, 0, 0), (.iload_n 2, 0, 0), (.iadd, 0, 0), (.iastore, 0, 0), (.iinc 4 1, 0, 0)] (by decide +kernel) trivial ⟨o1, o2, ?_⟩
    show Ev (d + 1) M_Duo_addToBoxes 0 0 54 [(2, v0), (2, v1), (0, v2), (0, v3), (0, iw (v4 + 1))] [] kd (zup m3 (m v1 6) x2 (iw ((m3 (m v1 6) x2) + v2))) (zqV kd q)
    refine EvX.goto (off := (-41)) (tgt := 13) (by decide +kernel) (by decide) ?_
    exact h
