/-! CONSTRUCTORS, second: without calls -/
theorem c_Tape_init {d : Nat} {m : ZM} : Ct (d + 1) M_Tape_init 1 400 [(2, 1)] (kT 2) m (fun r kd' m' => r = zJ ∧ kd' = kT 3 ∧ (TP kdF m' (fun _ => 0) 0) ∧ ∀ c, c < 1 → m' c = m c) := by
  have ho : zobj kdF 1 6 := ⟨by decide, rfl⟩
  refine Ct.start k_Tape_init (Nat.le_of_ble_eq_true rfl) ⟨0, Or.inl ⟨rfl, rfl⟩⟩ ?_
  show EvX none (d + 1) M_Tape_init 1 400 0 [(2, 1)] [] (kT 2) m _
  refine EvX.blk (pc' := 1) [(.aload_n 0, 0, 0)] (by decide +kernel) trivial ?_
  show EvX none (d + 1) M_Tape_init 1 400 1 [(2, 1)] [(2, 1)] (kT 2) m _
  refine EvX.objInit (by decide +kernel) y_Tape_3 y_obj1 y_obj2 (by decide) (Nat.le_of_ble_eq_true rfl) ?_
  show EvX none (d + 1) M_Tape_init 1 400 4 [(2, 1)] [] (kT 2) m _
  refine EvX.blk (pc' := 8) [(.aload_n 0, 0, 0), (.sipush 400, 0, 0)] (by decide +kernel) trivial ?_
  show EvX none (d + 1) M_Tape_init 1 400 8 [(2, 1)] [(0, 400), (2, 1)] (kT 2) m _
  refine EvX.newa (atype := .int) (t := 0) (N := 400) (by decide +kernel) aC_int rfl (by decide) (by decide) (by rw [kT_len (by decide)]; decide) ?_
  rw [kT_len (by decide), kS (n := 2) rfl]
  show EvX none (d + 1) M_Tape_init 0 0 10 [(2, 1)] [(2, 2), (2, 1)] (kT 3) (zrow m 2 (fun _ => 0)) _
  refine EvX.blk (pc' := 28) [(.putfield 11, 6, 0), (.aload_n 0, 0, 0), (.iconst 0, 0, 0), (.putfield 15, 6, 1), (.aload_n 0, 0, 0), (.iconst 0, 0, 0), (.putfield 19, 6, 2), (.aload_n 0, 0, 0), (.iconst 0, 0, 0), (.putfield 22, 6, 3)] (by decide +kernel) ⟨⟨g_Tape_11, p_Tape_11⟩, ⟨g_Tape_15, p_Tape_15⟩, ⟨g_Tape_19, p_Tape_19⟩, ⟨g_Tape_22, p_Tape_22⟩, trivial⟩ ⟨rfl, kTo ho (by decide), rfl, kTo ho (by decide), rfl, kTo ho (by decide), rfl, kTo ho (by decide), ?_⟩
  show EvX none (d + 1) M_Tape_init 0 0 28 [(2, 1)] [] (kT 3) (zup (zup (zup (zup (zrow m 2 (fun _ => 0)) 1 0 2) 1 1 0) 1 2 0) 1 3 0) _
  refine EvX.ret (r := zJ) (by decide +kernel) rfl ⟨rfl, rfl, ?_⟩
  refine ⟨⟨⟨by decide, rfl⟩, ?_, ⟨by decide, rfl⟩, ?_, ⟨by decide, by decide⟩, fun i i0_q i1_q => absurd i1_q (by omega)⟩, fun c hc_q => funext fun j => ?_⟩
  · simp [zup, zrow]
  · simp [zup, zrow]
  · simp [zup, zrow, show ¬ (c = 1) by omega, show ¬ (c = 2) by omega]
theorem c_Table_init {d : Nat} {m : ZM} : Ct (d + 1) M_Table_init 6 29685 [(2, 45)] (kT 46) m (fun r kd' m' => r = zJ ∧ kd' = kT 52 ∧ (TB kdF m') ∧ ∀ c, c < 45 → m' c = m c) := by
  have ho : zobj kdF 45 5 := ⟨by decide, rfl⟩
  refine Ct.start k_Table_init (Nat.le_of_ble_eq_true rfl) ⟨0, Or.inl ⟨rfl, rfl⟩⟩ ?_
  show EvX none (d + 1) M_Table_init 6 29685 0 [(2, 45)] [] (kT 46) m _
  refine EvX.blk (pc' := 1) [(.aload_n 0, 0, 0)] (by decide +kernel) trivial ?_
  show EvX none (d + 1) M_Table_init 6 29685 1 [(2, 45)] [(2, 45)] (kT 46) m _
  refine EvX.objInit (by decide +kernel) y_Table_3 y_obj1 y_obj2 (by decide) (Nat.le_of_ble_eq_true rfl) ?_
  show EvX none (d + 1) M_Table_init 6 29685 4 [(2, 45)] [] (kT 46) m _
  refine EvX.blk (pc' := 33) [(.aload_n 0, 0, 0), (.iconst 0, 0, 0), (.putfield 9, 5, 0), (.aload_n 0, 0, 0), (.iconst 0, 0, 0), (.putfield 15, 5, 1), (.aload_n 0, 0, 0), (.iconst 0, 0, 0), (.putfield 18, 5, 2), (.aload_n 0, 0, 0), (.iconst 0, 0, 0), (.putfield 21, 5, 3), (.aload_n 0, 0, 0), (.iconst 0, 0, 0), (.putfield 24, 5, 4), (.aload_n 0, 0, 0), (.sipush 25600, 0, 0)] (by decide +kernel) ⟨⟨g_Table_9, p_Table_9⟩, ⟨g_Table_15, p_Table_15⟩, ⟨g_Table_18, p_Table_18⟩, ⟨g_Table_21, p_Table_21⟩, ⟨g_Table_24, p_Table_24⟩, trivial⟩ ⟨rfl, kTo ho (by decide), rfl, kTo ho (by decide), rfl, kTo ho (by decide), rfl, kTo ho (by decide), rfl, kTo ho (by decide), ?_⟩
  show EvX none (d + 1) M_Table_init 6 29685 33 [(2, 45)] [(0, 25600), (2, 45)] (kT 46) (zup (zup (zup (zup (zup m 45 0 0) 45 1 0) 45 2 0) 45 3 0) 45 4 0) _
  refine EvX.newa (atype := .int) (t := 0) (N := 25600) (by decide +kernel) aC_int rfl (by decide) (by decide) (by rw [kT_len (by decide)]; decide) ?_
  rw [kT_len (by decide), kS (n := 46) rfl]
  show EvX none (d + 1) M_Table_init 5 4085 35 [(2, 45)] [(2, 46), (2, 45)] (kT 47) (zrow (zup (zup (zup (zup (zup m 45 0 0) 45 1 0) 45 2 0) 45 3 0) 45 4 0) 46 (fun _ => 0)) _
  refine EvX.blk (pc' := 42) [(.putfield 27, 5, 5), (.aload_n 0, 0, 0), (.sipush 2000, 0, 0)] (by decide +kernel) ⟨⟨g_Table_27, p_Table_27⟩, trivial⟩ ⟨rfl, kTo ho (by decide), ?_⟩
  show EvX none (d + 1) M_Table_init 5 4085 42 [(2, 45)] [(0, 2000), (2, 45)] (kT 47) (zup (zrow (zup (zup (zup (zup (zup m 45 0 0) 45 1 0) 45 2 0) 45 3 0) 45 4 0) 46 (fun _ => 0)) 45 5 46) _
  refine EvX.newa (atype := .int) (t := 0) (N := 2000) (by decide +kernel) aC_int rfl (by decide) (by decide) (by rw [kT_len (by decide)]; decide) ?_
  rw [kT_len (by decide), kS (n := 47) rfl]
  show EvX none (d + 1) M_Table_init 4 2085 44 [(2, 45)] [(2, 47), (2, 45)] (kT 48) (zrow (zup (zrow (zup (zup (zup (zup (zup m 45 0 0) 45 1 0) 45 2 0) 45 3 0) 45 4 0) 46 (fun _ => 0)) 45 5 46) 47 (fun _ => 0)) _
  refine EvX.blk (pc' := 51) [(.putfield 31, 5, 6), (.aload_n 0, 0, 0), (.sipush 2000, 0, 0)] (by decide +kernel) ⟨⟨g_Table_31, p_Table_31⟩, trivial⟩ ⟨rfl, kTo ho (by decide), ?_⟩
  show EvX none (d + 1) M_Table_init 4 2085 51 [(2, 45)] [(0, 2000), (2, 45)] (kT 48) (zup (zrow (zup (zrow (zup (zup (zup (zup (zup m 45 0 0) 45 1 0) 45 2 0) 45 3 0) 45 4 0) 46 (fun _ => 0)) 45 5 46) 47 (fun _ => 0)) 45 6 47) _
  refine EvX.newa (atype := .int) (t := 0) (N := 2000) (by decide +kernel) aC_int rfl (by decide) (by decide) (by rw [kT_len (by decide)]; decide) ?_
  rw [kT_len (by decide), kS (n := 48) rfl]
  show EvX none (d + 1) M_Table_init 3 85 53 [(2, 45)] [(2, 48), (2, 45)] (kT 49) (zrow (zup (zrow (zup (zrow (zup (zup (zup (zup (zup m 45 0 0) 45 1 0) 45 2 0) 45 3 0) 45 4 0) 46 (fun _ => 0)) 45 5 46) 47 (fun _ => 0)) 45 6 47) 48 (fun _ => 0)) _
  refine EvX.blk (pc' := 59) [(.putfield 34, 5, 7), (.aload_n 0, 0, 0), (.bipush 64, 0, 0)] (by decide +kernel) ⟨⟨g_Table_34, p_Table_34⟩, trivial⟩ ⟨rfl, kTo ho (by decide), ?_⟩
  show EvX none (d + 1) M_Table_init 3 85 59 [(2, 45)] [(0, 64), (2, 45)] (kT 49) (zup (zrow (zup (zrow (zup (zrow (zup (zup (zup (zup (zup m 45 0 0) 45 1 0) 45 2 0) 45 3 0) 45 4 0) 46 (fun _ => 0)) 45 5 46) 47 (fun _ => 0)) 45 6 47) 48 (fun _ => 0)) 45 7 48) _
  refine EvX.newa (atype := .boolean) (t := 1) (N := 64) (by decide +kernel) aC_boolean rfl (by decide) (by decide) (by rw [kT_len (by decide)]; decide) ?_
  rw [kT_len (by decide), kS (n := 49) rfl]
  show EvX none (d + 1) M_Table_init 2 21 61 [(2, 45)] [(2, 49), (2, 45)] (kT 50) (zrow (zup (zrow (zup (zrow (zup (zrow (zup (zup (zup (zup (zup m 45 0 0) 45 1 0) 45 2 0) 45 3 0) 45 4 0) 46 (fun _ => 0)) 45 5 46) 47 (fun _ => 0)) 45 6 47) 48 (fun _ => 0)) 45 7 48) 49 (fun _ => 0)) _
  refine EvX.blk (pc' := 67) [(.putfield 37, 5, 8), (.aload_n 0, 0, 0), (.bipush 16, 0, 0)] (by decide +kernel) ⟨⟨g_Table_37, p_Table_37⟩, trivial⟩ ⟨rfl, kTo ho (by decide), ?_⟩
  show EvX none (d + 1) M_Table_init 2 21 67 [(2, 45)] [(0, 16), (2, 45)] (kT 50) (zup (zrow (zup (zrow (zup (zrow (zup (zrow (zup (zup (zup (zup (zup m 45 0 0) 45 1 0) 45 2 0) 45 3 0) 45 4 0) 46 (fun _ => 0)) 45 5 46) 47 (fun _ => 0)) 45 6 47) 48 (fun _ => 0)) 45 7 48) 49 (fun _ => 0)) 45 8 49) _
  refine EvX.newa (atype := .int) (t := 0) (N := 16) (by decide +kernel) aC_int rfl (by decide) (by decide) (by rw [kT_len (by decide)]; decide) ?_
  rw [kT_len (by decide), kS (n := 50) rfl]
  show EvX none (d + 1) M_Table_init 1 5 69 [(2, 45)] [(2, 50), (2, 45)] (kT 51) (zrow (zup (zrow (zup (zrow (zup (zrow (zup (zrow (zup (zup (zup (zup (zup m 45 0 0) 45 1 0) 45 2 0) 45 3 0) 45 4 0) 46 (fun _ => 0)) 45 5 46) 47 (fun _ => 0)) 45 6 47) 48 (fun _ => 0)) 45 7 48) 49 (fun _ => 0)) 45 8 49) 50 (fun _ => 0)) _
  refine EvX.blk (pc' := 74) [(.putfield 41, 5, 9), (.aload_n 0, 0, 0), (.iconst 5, 0, 0)] (by decide +kernel) ⟨⟨g_Table_41, p_Table_41⟩, trivial⟩ ⟨rfl, kTo ho (by decide), ?_⟩
  show EvX none (d + 1) M_Table_init 1 5 74 [(2, 45)] [(0, 5), (2, 45)] (kT 51) (zup (zrow (zup (zrow (zup (zrow (zup (zrow (zup (zrow (zup (zup (zup (zup (zup m 45 0 0) 45 1 0) 45 2 0) 45 3 0) 45 4 0) 46 (fun _ => 0)) 45 5 46) 47 (fun _ => 0)) 45 6 47) 48 (fun _ => 0)) 45 7 48) 49 (fun _ => 0)) 45 8 49) 50 (fun _ => 0)) 45 9 50) _
  refine EvX.newa (atype := .int) (t := 0) (N := 5) (by decide +kernel) aC_int rfl (by decide) (by decide) (by rw [kT_len (by decide)]; decide) ?_
  rw [kT_len (by decide), kS (n := 51) rfl]
  show EvX none (d + 1) M_Table_init 0 0 76 [(2, 45)] [(2, 51), (2, 45)] (kT 52) (zrow (zup (zrow (zup (zrow (zup (zrow (zup (zrow (zup (zrow (zup (zup (zup (zup (zup m 45 0 0) 45 1 0) 45 2 0) 45 3 0) 45 4 0) 46 (fun _ => 0)) 45 5 46) 47 (fun _ => 0)) 45 6 47) 48 (fun _ => 0)) 45 7 48) 49 (fun _ => 0)) 45 8 49) 50 (fun _ => 0)) 45 9 50) 51 (fun _ => 0)) _
  refine EvX.blk (pc' := 84) [(.putfield 44, 5, 10), (.aload_n 0, 0, 0), (.iconst 0, 0, 0), (.putfield 47, 5, 11)] (by decide +kernel) ⟨⟨g_Table_44, p_Table_44⟩, ⟨g_Table_47, p_Table_47⟩, trivial⟩ ⟨rfl, kTo ho (by decide), rfl, kTo ho (by decide), ?_⟩
  show EvX none (d + 1) M_Table_init 0 0 84 [(2, 45)] [] (kT 52) (zup (zup (zrow (zup (zrow (zup (zrow (zup (zrow (zup (zrow (zup (zrow (zup (zup (zup (zup (zup m 45 0 0) 45 1 0) 45 2 0) 45 3 0) 45 4 0) 46 (fun _ => 0)) 45 5 46) 47 (fun _ => 0)) 45 6 47) 48 (fun _ => 0)) 45 7 48) 49 (fun _ => 0)) 45 8 49) 50 (fun _ => 0)) 45 9 50) 51 (fun _ => 0)) 45 10 51) 45 11 0) _
  refine EvX.ret (r := zJ) (by decide +kernel) rfl ⟨rfl, rfl, ?_⟩
  refine ⟨⟨0, 0, 0, 0, 0, ⟨by decide, rfl⟩, ⟨?_, ?_, ?_, ?_, ?_⟩, ⟨?_, ?_, ?_, ?_, ?_, ?_⟩, ⟨by decide, rfl⟩, ⟨by decide, rfl⟩, ⟨by decide, rfl⟩, ⟨by decide, rfl⟩, ⟨by decide, rfl⟩, ⟨by decide, rfl⟩⟩, fun c hc_q => funext fun j => ?_⟩
  · simp [zup, zrow]
  · simp [zup, zrow]
  · simp [zup, zrow]
  · simp [zup, zrow]
  · simp [zup, zrow]
  · simp [zup, zrow]
  · simp [zup, zrow]
  · simp [zup, zrow]
  · simp [zup, zrow]
  · simp [zup, zrow]
  · simp [zup, zrow]
  · simp [zup, zrow, show ¬ (c = 45) by omega, show ¬ (c = 46) by omega, show ¬ (c = 47) by omega, show ¬ (c = 48) by omega, show ¬ (c = 49) by omega, show ¬ (c = 50) by omega, show ¬ (c = 51) by omega]
theorem c_Duo_init {d : Nat} {m : ZM} : Ct (d + 1) M_Duo_init 3 15 [(2, 52)] (kT 53) m (fun r kd' m' => r = zJ ∧ kd' = kT 56 ∧ (DU kdF m') ∧ ∀ c, c < 52 → m' c = m c) := by
  have ho : zobj kdF 52 0 := ⟨by decide, rfl⟩
  refine Ct.start k_Duo_init (Nat.le_of_ble_eq_true rfl) ⟨0, Or.inl ⟨rfl, rfl⟩⟩ ?_
  show EvX none (d + 1) M_Duo_init 3 15 0 [(2, 52)] [] (kT 53) m _
  refine EvX.blk (pc' := 1) [(.aload_n 0, 0, 0)] (by decide +kernel) trivial ?_
  show EvX none (d + 1) M_Duo_init 3 15 1 [(2, 52)] [(2, 52)] (kT 53) m _
  refine EvX.objInit (by decide +kernel) y_Duo_3 y_obj1 y_obj2 (by decide) (Nat.le_of_ble_eq_true rfl) ?_
  show EvX none (d + 1) M_Duo_init 3 15 4 [(2, 52)] [] (kT 53) m _
  refine EvX.blk (pc' := 6) [(.aload_n 0, 0, 0), (.iconst 5, 0, 0)] (by decide +kernel) trivial ?_
  show EvX none (d + 1) M_Duo_init 3 15 6 [(2, 52)] [(0, 5), (2, 52)] (kT 53) m _
  refine EvX.newa (atype := .int) (t := 0) (N := 5) (by decide +kernel) aC_int rfl (by decide) (by decide) (by rw [kT_len (by decide)]; decide) ?_
  rw [kT_len (by decide), kS (n := 53) rfl]
  show EvX none (d + 1) M_Duo_init 2 10 8 [(2, 52)] [(2, 53), (2, 52)] (kT 54) (zrow m 53 (fun _ => 0)) _
  refine EvX.blk (pc' := 13) [(.putfield 9, 0, 0), (.aload_n 0, 0, 0), (.iconst 5, 0, 0)] (by decide +kernel) ⟨⟨g_Duo_9, p_Duo_9⟩, trivial⟩ ⟨rfl, kTo ho (by decide), ?_⟩
  show EvX none (d + 1) M_Duo_init 2 10 13 [(2, 52)] [(0, 5), (2, 52)] (kT 54) (zup (zrow m 53 (fun _ => 0)) 52 0 53) _
  refine EvX.newa (atype := .int) (t := 0) (N := 5) (by decide +kernel) aC_int rfl (by decide) (by decide) (by rw [kT_len (by decide)]; decide) ?_
  rw [kT_len (by decide), kS (n := 54) rfl]
  show EvX none (d + 1) M_Duo_init 1 5 15 [(2, 52)] [(2, 54), (2, 52)] (kT 55) (zrow (zup (zrow m 53 (fun _ => 0)) 52 0 53) 54 (fun _ => 0)) _
  refine EvX.blk (pc' := 20) [(.putfield 15, 0, 1), (.aload_n 0, 0, 0), (.iconst 5, 0, 0)] (by decide +kernel) ⟨⟨g_Duo_15, p_Duo_15⟩, trivial⟩ ⟨rfl, kTo ho (by decide), ?_⟩
  show EvX none (d + 1) M_Duo_init 1 5 20 [(2, 52)] [(0, 5), (2, 52)] (kT 55) (zup (zrow (zup (zrow m 53 (fun _ => 0)) 52 0 53) 54 (fun _ => 0)) 52 1 54) _
  refine EvX.newa (atype := .int) (t := 0) (N := 5) (by decide +kernel) aC_int rfl (by decide) (by decide) (by rw [kT_len (by decide)]; decide) ?_
  rw [kT_len (by decide), kS (n := 55) rfl]
  show EvX none (d + 1) M_Duo_init 0 0 22 [(2, 52)] [(2, 55), (2, 52)] (kT 56) (zrow (zup (zrow (zup (zrow m 53 (fun _ => 0)) 52 0 53) 54 (fun _ => 0)) 52 1 54) 55 (fun _ => 0)) _
  refine EvX.blk (pc' := 25) [(.putfield 18, 0, 2)] (by decide +kernel) ⟨⟨g_Duo_18, p_Duo_18⟩, trivial⟩ ⟨rfl, kTo ho (by decide), ?_⟩
  show EvX none (d + 1) M_Duo_init 0 0 25 [(2, 52)] [] (kT 56) (zup (zrow (zup (zrow (zup (zrow m 53 (fun _ => 0)) 52 0 53) 54 (fun _ => 0)) 52 1 54) 55 (fun _ => 0)) 52 2 55) _
  refine EvX.ret (r := zJ) (by decide +kernel) rfl ⟨rfl, rfl, ?_⟩
  refine ⟨⟨⟨⟨by decide, rfl⟩, ?_, ?_, ?_⟩, ⟨by decide, rfl⟩, ⟨by decide, rfl⟩, ⟨by decide, rfl⟩⟩, fun c hc_q => funext fun j => ?_⟩
  · simp [zup, zrow]
  · simp [zup, zrow]
  · simp [zup, zrow]
  · simp [zup, zrow, show ¬ (c = 52) by omega, show ¬ (c = 53) by omega, show ¬ (c = 54) by omega, show ¬ (c = 55) by omega]
theorem c_Shape_init {d : Nat} {m : ZM} : Ct (d + 1) M_Shape_init 3 40 [(2, 56)] (kT 57) m (fun r kd' m' => r = zJ ∧ kd' = kT 60 ∧ (SH kdF m') ∧ ∀ c, c < 56 → m' c = m c) := by
  have ho : zobj kdF 56 4 := ⟨by decide, rfl⟩
  refine Ct.start k_Shape_init (Nat.le_of_ble_eq_true rfl) ⟨0, Or.inl ⟨rfl, rfl⟩⟩ ?_
  show EvX none (d + 1) M_Shape_init 3 40 0 [(2, 56)] [] (kT 57) m _
  refine EvX.blk (pc' := 1) [(.aload_n 0, 0, 0)] (by decide +kernel) trivial ?_
  show EvX none (d + 1) M_Shape_init 3 40 1 [(2, 56)] [(2, 56)] (kT 57) m _
  refine EvX.objInit (by decide +kernel) y_Shape_3 y_obj1 y_obj2 (by decide) (Nat.le_of_ble_eq_true rfl) ?_
  show EvX none (d + 1) M_Shape_init 3 40 4 [(2, 56)] [] (kT 57) m _
  refine EvX.blk (pc' := 7) [(.aload_n 0, 0, 0), (.bipush 10, 0, 0)] (by decide +kernel) trivial ?_
  show EvX none (d + 1) M_Shape_init 3 40 7 [(2, 56)] [(0, 10), (2, 56)] (kT 57) m _
  refine EvX.newa (atype := .int) (t := 0) (N := 10) (by decide +kernel) aC_int rfl (by decide) (by decide) (by rw [kT_len (by decide)]; decide) ?_
  rw [kT_len (by decide), kS (n := 57) rfl]
  show EvX none (d + 1) M_Shape_init 2 30 9 [(2, 56)] [(2, 57), (2, 56)] (kT 58) (zrow m 57 (fun _ => 0)) _
  refine EvX.blk (pc' := 15) [(.putfield 9, 4, 0), (.aload_n 0, 0, 0), (.bipush 25, 0, 0)] (by decide +kernel) ⟨⟨g_Shape_9, p_Shape_9⟩, trivial⟩ ⟨rfl, kTo ho (by decide), ?_⟩
  show EvX none (d + 1) M_Shape_init 2 30 15 [(2, 56)] [(0, 25), (2, 56)] (kT 58) (zup (zrow m 57 (fun _ => 0)) 56 0 57) _
  refine EvX.newa (atype := .int) (t := 0) (N := 25) (by decide +kernel) aC_int rfl (by decide) (by decide) (by rw [kT_len (by decide)]; decide) ?_
  rw [kT_len (by decide), kS (n := 58) rfl]
  show EvX none (d + 1) M_Shape_init 1 5 17 [(2, 56)] [(2, 58), (2, 56)] (kT 59) (zrow (zup (zrow m 57 (fun _ => 0)) 56 0 57) 58 (fun _ => 0)) _
  refine EvX.blk (pc' := 22) [(.putfield 15, 4, 1), (.aload_n 0, 0, 0), (.iconst 5, 0, 0)] (by decide +kernel) ⟨⟨g_Shape_15, p_Shape_15⟩, trivial⟩ ⟨rfl, kTo ho (by decide), ?_⟩
  show EvX none (d + 1) M_Shape_init 1 5 22 [(2, 56)] [(0, 5), (2, 56)] (kT 59) (zup (zrow (zup (zrow m 57 (fun _ => 0)) 56 0 57) 58 (fun _ => 0)) 56 1 58) _
  refine EvX.newa (atype := .int) (t := 0) (N := 5) (by decide +kernel) aC_int rfl (by decide) (by decide) (by rw [kT_len (by decide)]; decide) ?_
  rw [kT_len (by decide), kS (n := 59) rfl]
  show EvX none (d + 1) M_Shape_init 0 0 24 [(2, 56)] [(2, 59), (2, 56)] (kT 60) (zrow (zup (zrow (zup (zrow m 57 (fun _ => 0)) 56 0 57) 58 (fun _ => 0)) 56 1 58) 59 (fun _ => 0)) _
  refine EvX.blk (pc' := 27) [(.putfield 18, 4, 2)] (by decide +kernel) ⟨⟨g_Shape_18, p_Shape_18⟩, trivial⟩ ⟨rfl, kTo ho (by decide), ?_⟩
  show EvX none (d + 1) M_Shape_init 0 0 27 [(2, 56)] [] (kT 60) (zup (zrow (zup (zrow (zup (zrow m 57 (fun _ => 0)) 56 0 57) 58 (fun _ => 0)) 56 1 58) 59 (fun _ => 0)) 56 2 59) _
  refine EvX.ret (r := zJ) (by decide +kernel) rfl ⟨rfl, rfl, ?_⟩
  refine ⟨⟨⟨by decide, rfl⟩, ⟨?_, ?_, ?_⟩, ⟨by decide, rfl⟩, ⟨by decide, rfl⟩, ⟨by decide, rfl⟩⟩, fun c hc_q => funext fun j => ?_⟩
  · simp [zup, zrow]
  · simp [zup, zrow]
  · simp [zup, zrow]
  · simp [zup, zrow, show ¬ (c = 56) by omega, show ¬ (c = 57) by omega, show ¬ (c = 58) by omega, show ¬ (c = 59) by omega]
theorem c_Scribe_init {d : Nat} {m : ZM} : Ct (d + 1) M_Scribe_init 0 0 [(2, 60)] (kT 61) m (fun r kd' m' => r = zJ ∧ kd' = kT 61 ∧ (True) ∧ ∀ c, c < 60 → m' c = m c) := by
  have ho : zobj kdF 60 3 := ⟨by decide, rfl⟩
  refine Ct.start k_Scribe_init (Nat.le_of_ble_eq_true rfl) ⟨0, Or.inl ⟨rfl, rfl⟩⟩ ?_
  show EvX none (d + 1) M_Scribe_init 0 0 0 [(2, 60)] [] (kT 61) m _
  refine EvX.blk (pc' := 1) [(.aload_n 0, 0, 0)] (by decide +kernel) trivial ?_
  show EvX none (d + 1) M_Scribe_init 0 0 1 [(2, 60)] [(2, 60)] (kT 61) m _
  refine EvX.objInit (by decide +kernel) y_Scribe_3 y_obj1 y_obj2 (by decide) (Nat.le_of_ble_eq_true rfl) ?_
  show EvX none (d + 1) M_Scribe_init 0 0 4 [(2, 60)] [] (kT 61) m _
  refine EvX.blk (pc' := 19) [(.aload_n 0, 0, 0), (.iconst (-1), 0, 0), (.putfield 9, 3, 0), (.aload_n 0, 0, 0), (.iconst 0, 0, 0), (.putfield 15, 3, 1), (.aload_n 0, 0, 0), (.iconst 0, 0, 0), (.putfield 18, 3, 2)] (by decide +kernel) ⟨⟨g_Scribe_9, p_Scribe_9⟩, ⟨g_Scribe_15, p_Scribe_15⟩, ⟨g_Scribe_18, p_Scribe_18⟩, trivial⟩ ⟨rfl, kTo ho (by decide), rfl, kTo ho (by decide), rfl, kTo ho (by decide), ?_⟩
  show EvX none (d + 1) M_Scribe_init 0 0 19 [(2, 60)] [] (kT 61) (zup (zup (zup m 60 0 (-1)) 60 1 0) 60 2 0) _
  refine EvX.ret (r := zJ) (by decide +kernel) rfl ⟨rfl, rfl, ?_⟩
  refine ⟨trivial, fun c hc_q => funext fun j => ?_⟩
  · simp [zup, zrow, show ¬ (c = 60) by omega]
theorem c_Mo_init {d : Nat} {m : ZM} : Ct (d + 1) M_Mo_init 16 38875 [(2, 78)] (kT 79) m (fun r kd' m' => r = zJ ∧ kd' = kT 95 ∧ (MS kdF m' ∧ (∀ i, m' 79 i = 0) ∧ (∀ i, m' 84 i = 0) ∧ m' 78 6 = m 78 6 ∧ m' 78 8 = m 78 8) ∧ ∀ c, c < 78 → m' c = m c) := by
  have ho : zobj kdF 78 8 := ⟨by decide, rfl⟩
  refine Ct.start k_Mo_init (Nat.le_of_ble_eq_true rfl) ⟨0, Or.inl ⟨rfl, rfl⟩⟩ ?_
  show EvX none (d + 1) M_Mo_init 16 38875 0 [(2, 78)] [] (kT 79) m _
  refine EvX.blk (pc' := 1) [(.aload_n 0, 0, 0)] (by decide +kernel) trivial ?_
  show EvX none (d + 1) M_Mo_init 16 38875 1 [(2, 78)] [(2, 78)] (kT 79) m _
  refine EvX.objInit (by decide +kernel) y_Mo_1 y_obj1 y_obj2 (by decide) (Nat.le_of_ble_eq_true rfl) ?_
  show EvX none (d + 1) M_Mo_init 16 38875 4 [(2, 78)] [] (kT 79) m _
  refine EvX.blk (pc' := 8) [(.aload_n 0, 0, 0), (.sipush 829, 0, 0)] (by decide +kernel) trivial ?_
  show EvX none (d + 1) M_Mo_init 16 38875 8 [(2, 78)] [(0, 829), (2, 78)] (kT 79) m _
  refine EvX.newa (atype := .int) (t := 0) (N := 829) (by decide +kernel) aC_int rfl (by decide) (by decide) (by rw [kT_len (by decide)]; decide) ?_
  rw [kT_len (by decide), kS (n := 79) rfl]
  show EvX none (d + 1) M_Mo_init 15 38046 10 [(2, 78)] [(2, 79), (2, 78)] (kT 80) (zrow m 79 (fun _ => 0)) _
  refine EvX.blk (pc' := 17) [(.putfield 9, 8, 0), (.aload_n 0, 0, 0), (.sipush 829, 0, 0)] (by decide +kernel) ⟨⟨g_Mo_9, p_Mo_9⟩, trivial⟩ ⟨rfl, kTo ho (by decide), ?_⟩
  show EvX none (d + 1) M_Mo_init 15 38046 17 [(2, 78)] [(0, 829), (2, 78)] (kT 80) (zup (zrow m 79 (fun _ => 0)) 78 0 79) _
  refine EvX.newa (atype := .int) (t := 0) (N := 829) (by decide +kernel) aC_int rfl (by decide) (by decide) (by rw [kT_len (by decide)]; decide) ?_
  rw [kT_len (by decide), kS (n := 80) rfl]
  show EvX none (d + 1) M_Mo_init 14 37217 19 [(2, 78)] [(2, 80), (2, 78)] (kT 81) (zrow (zup (zrow m 79 (fun _ => 0)) 78 0 79) 80 (fun _ => 0)) _
  refine EvX.blk (pc' := 26) [(.putfield 13, 8, 1), (.aload_n 0, 0, 0), (.sipush 829, 0, 0)] (by decide +kernel) ⟨⟨g_Mo_13, p_Mo_13⟩, trivial⟩ ⟨rfl, kTo ho (by decide), ?_⟩
  show EvX none (d + 1) M_Mo_init 14 37217 26 [(2, 78)] [(0, 829), (2, 78)] (kT 81) (zup (zrow (zup (zrow m 79 (fun _ => 0)) 78 0 79) 80 (fun _ => 0)) 78 1 80) _
  refine EvX.newa (atype := .int) (t := 0) (N := 829) (by decide +kernel) aC_int rfl (by decide) (by decide) (by rw [kT_len (by decide)]; decide) ?_
  rw [kT_len (by decide), kS (n := 81) rfl]
  show EvX none (d + 1) M_Mo_init 13 36388 28 [(2, 78)] [(2, 81), (2, 78)] (kT 82) (zrow (zup (zrow (zup (zrow m 79 (fun _ => 0)) 78 0 79) 80 (fun _ => 0)) 78 1 80) 81 (fun _ => 0)) _
  refine EvX.blk (pc' := 35) [(.putfield 16, 8, 2), (.aload_n 0, 0, 0), (.sipush 8290, 0, 0)] (by decide +kernel) ⟨⟨g_Mo_16, p_Mo_16⟩, trivial⟩ ⟨rfl, kTo ho (by decide), ?_⟩
  show EvX none (d + 1) M_Mo_init 13 36388 35 [(2, 78)] [(0, 8290), (2, 78)] (kT 82) (zup (zrow (zup (zrow (zup (zrow m 79 (fun _ => 0)) 78 0 79) 80 (fun _ => 0)) 78 1 80) 81 (fun _ => 0)) 78 2 81) _
  refine EvX.newa (atype := .int) (t := 0) (N := 8290) (by decide +kernel) aC_int rfl (by decide) (by decide) (by rw [kT_len (by decide)]; decide) ?_
  rw [kT_len (by decide), kS (n := 82) rfl]
  show EvX none (d + 1) M_Mo_init 12 28098 37 [(2, 78)] [(2, 82), (2, 78)] (kT 83) (zrow (zup (zrow (zup (zrow (zup (zrow m 79 (fun _ => 0)) 78 0 79) 80 (fun _ => 0)) 78 1 80) 81 (fun _ => 0)) 78 2 81) 82 (fun _ => 0)) _
  refine EvX.blk (pc' := 44) [(.putfield 19, 8, 3), (.aload_n 0, 0, 0), (.sipush 1658, 0, 0)] (by decide +kernel) ⟨⟨g_Mo_19, p_Mo_19⟩, trivial⟩ ⟨rfl, kTo ho (by decide), ?_⟩
  show EvX none (d + 1) M_Mo_init 12 28098 44 [(2, 78)] [(0, 1658), (2, 78)] (kT 83) (zup (zrow (zup (zrow (zup (zrow (zup (zrow m 79 (fun _ => 0)) 78 0 79) 80 (fun _ => 0)) 78 1 80) 81 (fun _ => 0)) 78 2 81) 82 (fun _ => 0)) 78 3 82) _
  refine EvX.newa (atype := .int) (t := 0) (N := 1658) (by decide +kernel) aC_int rfl (by decide) (by decide) (by rw [kT_len (by decide)]; decide) ?_
  rw [kT_len (by decide), kS (n := 83) rfl]
  show EvX none (d + 1) M_Mo_init 11 26440 46 [(2, 78)] [(2, 83), (2, 78)] (kT 84) (zrow (zup (zrow (zup (zrow (zup (zrow (zup (zrow m 79 (fun _ => 0)) 78 0 79) 80 (fun _ => 0)) 78 1 80) 81 (fun _ => 0)) 78 2 81) 82 (fun _ => 0)) 78 3 82) 83 (fun _ => 0)) _
  refine EvX.blk (pc' := 51) [(.putfield 22, 8, 4), (.aload_n 0, 0, 0), (.iconst 2, 0, 0)] (by decide +kernel) ⟨⟨g_Mo_22, p_Mo_22⟩, trivial⟩ ⟨rfl, kTo ho (by decide), ?_⟩
  show EvX none (d + 1) M_Mo_init 11 26440 51 [(2, 78)] [(0, 2), (2, 78)] (kT 84) (zup (zrow (zup (zrow (zup (zrow (zup (zrow (zup (zrow m 79 (fun _ => 0)) 78 0 79) 80 (fun _ => 0)) 78 1 80) 81 (fun _ => 0)) 78 2 81) 82 (fun _ => 0)) 78 3 82) 83 (fun _ => 0)) 78 4 83) _
  refine EvX.newa (atype := .boolean) (t := 1) (N := 2) (by decide +kernel) aC_boolean rfl (by decide) (by decide) (by rw [kT_len (by decide)]; decide) ?_
  rw [kT_len (by decide), kS (n := 84) rfl]
  show EvX none (d + 1) M_Mo_init 10 26438 53 [(2, 78)] [(2, 84), (2, 78)] (kT 85) (zrow (zup (zrow (zup (zrow (zup (zrow (zup (zrow (zup (zrow m 79 (fun _ => 0)) 78 0 79) 80 (fun _ => 0)) 78 1 80) 81 (fun _ => 0)) 78 2 81) 82 (fun _ => 0)) 78 3 82) 83 (fun _ => 0)) 78 4 83) 84 (fun _ => 0)) _
  refine EvX.blk (pc' := 60) [(.putfield 25, 8, 5), (.aload_n 0, 0, 0), (.sipush 400, 0, 0)] (by decide +kernel) ⟨⟨g_Mo_25, p_Mo_25⟩, trivial⟩ ⟨rfl, kTo ho (by decide), ?_⟩
  show EvX none (d + 1) M_Mo_init 10 26438 60 [(2, 78)] [(0, 400), (2, 78)] (kT 85) (zup (zrow (zup (zrow (zup (zrow (zup (zrow (zup (zrow (zup (zrow m 79 (fun _ => 0)) 78 0 79) 80 (fun _ => 0)) 78 1 80) 81 (fun _ => 0)) 78 2 81) 82 (fun _ => 0)) 78 3 82) 83 (fun _ => 0)) 78 4 83) 84 (fun _ => 0)) 78 5 84) _
  refine EvX.newa (atype := .byte) (t := 2) (N := 400) (by decide +kernel) aC_byte rfl (by decide) (by decide) (by rw [kT_len (by decide)]; decide) ?_
  rw [kT_len (by decide), kS (n := 85) rfl]
  show EvX none (d + 1) M_Mo_init 9 26038 62 [(2, 78)] [(2, 85), (2, 78)] (kT 86) (zrow (zup (zrow (zup (zrow (zup (zrow (zup (zrow (zup (zrow (zup (zrow m 79 (fun _ => 0)) 78 0 79) 80 (fun _ => 0)) 78 1 80) 81 (fun _ => 0)) 78 2 81) 82 (fun _ => 0)) 78 3 82) 83 (fun _ => 0)) 78 4 83) 84 (fun _ => 0)) 78 5 84) 85 (fun _ => 0)) _
  refine EvX.blk (pc' := 67) [(.putfield 29, 8, 7), (.aload_n 0, 0, 0), (.iconst 5, 0, 0)] (by decide +kernel) ⟨⟨g_Mo_29, p_Mo_29⟩, trivial⟩ ⟨rfl, kTo ho (by decide), ?_⟩
  show EvX none (d + 1) M_Mo_init 9 26038 67 [(2, 78)] [(0, 5), (2, 78)] (kT 86) (zup (zrow (zup (zrow (zup (zrow (zup (zrow (zup (zrow (zup (zrow (zup (zrow m 79 (fun _ => 0)) 78 0 79) 80 (fun _ => 0)) 78 1 80) 81 (fun _ => 0)) 78 2 81) 82 (fun _ => 0)) 78 3 82) 83 (fun _ => 0)) 78 4 83) 84 (fun _ => 0)) 78 5 84) 85 (fun _ => 0)) 78 7 85) _
  refine EvX.newa (atype := .int) (t := 0) (N := 5) (by decide +kernel) aC_int rfl (by decide) (by decide) (by rw [kT_len (by decide)]; decide) ?_
  rw [kT_len (by decide), kS (n := 86) rfl]
  show EvX none (d + 1) M_Mo_init 8 26033 69 [(2, 78)] [(2, 86), (2, 78)] (kT 87) (zrow (zup (zrow (zup (zrow (zup (zrow (zup (zrow (zup (zrow (zup (zrow (zup (zrow m 79 (fun _ => 0)) 78 0 79) 80 (fun _ => 0)) 78 1 80) 81 (fun _ => 0)) 78 2 81) 82 (fun _ => 0)) 78 3 82) 83 (fun _ => 0)) 78 4 83) 84 (fun _ => 0)) 78 5 84) 85 (fun _ => 0)) 78 7 85) 86 (fun _ => 0)) _
  refine EvX.blk (pc' := 74) [(.putfield 33, 8, 12), (.aload_n 0, 0, 0), (.iconst 5, 0, 0)] (by decide +kernel) ⟨⟨g_Mo_33, p_Mo_33⟩, trivial⟩ ⟨rfl, kTo ho (by decide), ?_⟩
  show EvX none (d + 1) M_Mo_init 8 26033 74 [(2, 78)] [(0, 5), (2, 78)] (kT 87) (zup (zrow (zup (zrow (zup (zrow (zup (zrow (zup (zrow (zup (zrow (zup (zrow (zup (zrow m 79 (fun _ => 0)) 78 0 79) 80 (fun _ => 0)) 78 1 80) 81 (fun _ => 0)) 78 2 81) 82 (fun _ => 0)) 78 3 82) 83 (fun _ => 0)) 78 4 83) 84 (fun _ => 0)) 78 5 84) 85 (fun _ => 0)) 78 7 85) 86 (fun _ => 0)) 78 12 86) _
  refine EvX.newa (atype := .int) (t := 0) (N := 5) (by decide +kernel) aC_int rfl (by decide) (by decide) (by rw [kT_len (by decide)]; decide) ?_
  rw [kT_len (by decide), kS (n := 87) rfl]
  show EvX none (d + 1) M_Mo_init 7 26028 76 [(2, 78)] [(2, 87), (2, 78)] (kT 88) (zrow (zup (zrow (zup (zrow (zup (zrow (zup (zrow (zup (zrow (zup (zrow (zup (zrow (zup (zrow m 79 (fun _ => 0)) 78 0 79) 80 (fun _ => 0)) 78 1 80) 81 (fun _ => 0)) 78 2 81) 82 (fun _ => 0)) 78 3 82) 83 (fun _ => 0)) 78 4 83) 84 (fun _ => 0)) 78 5 84) 85 (fun _ => 0)) 78 7 85) 86 (fun _ => 0)) 78 12 86) 87 (fun _ => 0)) _
  refine EvX.blk (pc' := 81) [(.putfield 36, 8, 13), (.aload_n 0, 0, 0), (.iconst 4, 0, 0)] (by decide +kernel) ⟨⟨g_Mo_36, p_Mo_36⟩, trivial⟩ ⟨rfl, kTo ho (by decide), ?_⟩
  show EvX none (d + 1) M_Mo_init 7 26028 81 [(2, 78)] [(0, 4), (2, 78)] (kT 88) (zup (zrow (zup (zrow (zup (zrow (zup (zrow (zup (zrow (zup (zrow (zup (zrow (zup (zrow (zup (zrow m 79 (fun _ => 0)) 78 0 79) 80 (fun _ => 0)) 78 1 80) 81 (fun _ => 0)) 78 2 81) 82 (fun _ => 0)) 78 3 82) 83 (fun _ => 0)) 78 4 83) 84 (fun _ => 0)) 78 5 84) 85 (fun _ => 0)) 78 7 85) 86 (fun _ => 0)) 78 12 86) 87 (fun _ => 0)) 78 13 87) _
  refine EvX.newa (atype := .int) (t := 0) (N := 4) (by decide +kernel) aC_int rfl (by decide) (by decide) (by rw [kT_len (by decide)]; decide) ?_
  rw [kT_len (by decide), kS (n := 88) rfl]
  show EvX none (d + 1) M_Mo_init 6 26024 83 [(2, 78)] [(2, 88), (2, 78)] (kT 89) (zrow (zup (zrow (zup (zrow (zup (zrow (zup (zrow (zup (zrow (zup (zrow (zup (zrow (zup (zrow (zup (zrow m 79 (fun _ => 0)) 78 0 79) 80 (fun _ => 0)) 78 1 80) 81 (fun _ => 0)) 78 2 81) 82 (fun _ => 0)) 78 3 82) 83 (fun _ => 0)) 78 4 83) 84 (fun _ => 0)) 78 5 84) 85 (fun _ => 0)) 78 7 85) 86 (fun _ => 0)) 78 12 86) 87 (fun _ => 0)) 78 13 87) 88 (fun _ => 0)) _
  refine EvX.blk (pc' := 89) [(.putfield 39, 8, 15), (.aload_n 0, 0, 0), (.bipush 10, 0, 0)] (by decide +kernel) ⟨⟨g_Mo_39, p_Mo_39⟩, trivial⟩ ⟨rfl, kTo ho (by decide), ?_⟩
  show EvX none (d + 1) M_Mo_init 6 26024 89 [(2, 78)] [(0, 10), (2, 78)] (kT 89) (zup (zrow (zup (zrow (zup (zrow (zup (zrow (zup (zrow (zup (zrow (zup (zrow (zup (zrow (zup (zrow (zup (zrow m 79 (fun _ => 0)) 78 0 79) 80 (fun _ => 0)) 78 1 80) 81 (fun _ => 0)) 78 2 81) 82 (fun _ => 0)) 78 3 82) 83 (fun _ => 0)) 78 4 83) 84 (fun _ => 0)) 78 5 84) 85 (fun _ => 0)) 78 7 85) 86 (fun _ => 0)) 78 12 86) 87 (fun _ => 0)) 78 13 87) 88 (fun _ => 0)) 78 15 88) _
  refine EvX.newa (atype := .int) (t := 0) (N := 10) (by decide +kernel) aC_int rfl (by decide) (by decide) (by rw [kT_len (by decide)]; decide) ?_
  rw [kT_len (by decide), kS (n := 89) rfl]
  show EvX none (d + 1) M_Mo_init 5 26014 91 [(2, 78)] [(2, 89), (2, 78)] (kT 90) (zrow (zup (zrow (zup (zrow (zup (zrow (zup (zrow (zup (zrow (zup (zrow (zup (zrow (zup (zrow (zup (zrow (zup (zrow m 79 (fun _ => 0)) 78 0 79) 80 (fun _ => 0)) 78 1 80) 81 (fun _ => 0)) 78 2 81) 82 (fun _ => 0)) 78 3 82) 83 (fun _ => 0)) 78 4 83) 84 (fun _ => 0)) 78 5 84) 85 (fun _ => 0)) 78 7 85) 86 (fun _ => 0)) 78 12 86) 87 (fun _ => 0)) 78 13 87) 88 (fun _ => 0)) 78 15 88) 89 (fun _ => 0)) _
  refine EvX.blk (pc' := 98) [(.putfield 42, 8, 17), (.aload_n 0, 0, 0), (.sipush 25600, 0, 0)] (by decide +kernel) ⟨⟨g_Mo_42, p_Mo_42⟩, trivial⟩ ⟨rfl, kTo ho (by decide), ?_⟩
  show EvX none (d + 1) M_Mo_init 5 26014 98 [(2, 78)] [(0, 25600), (2, 78)] (kT 90) (zup (zrow (zup (zrow (zup (zrow (zup (zrow (zup (zrow (zup (zrow (zup (zrow (zup (zrow (zup (zrow (zup (zrow (zup (zrow m 79 (fun _ => 0)) 78 0 79) 80 (fun _ => 0)) 78 1 80) 81 (fun _ => 0)) 78 2 81) 82 (fun _ => 0)) 78 3 82) 83 (fun _ => 0)) 78 4 83) 84 (fun _ => 0)) 78 5 84) 85 (fun _ => 0)) 78 7 85) 86 (fun _ => 0)) 78 12 86) 87 (fun _ => 0)) 78 13 87) 88 (fun _ => 0)) 78 15 88) 89 (fun _ => 0)) 78 17 89) _
  refine EvX.newa (atype := .int) (t := 0) (N := 25600) (by decide +kernel) aC_int rfl (by decide) (by decide) (by rw [kT_len (by decide)]; decide) ?_
  rw [kT_len (by decide), kS (n := 90) rfl]
  show EvX none (d + 1) M_Mo_init 4 414 100 [(2, 78)] [(2, 90), (2, 78)] (kT 91) (zrow (zup (zrow (zup (zrow (zup (zrow (zup (zrow (zup (zrow (zup (zrow (zup (zrow (zup (zrow (zup (zrow (zup (zrow (zup (zrow m 79 (fun _ => 0)) 78 0 79) 80 (fun _ => 0)) 78 1 80) 81 (fun _ => 0)) 78 2 81) 82 (fun _ => 0)) 78 3 82) 83 (fun _ => 0)) 78 4 83) 84 (fun _ => 0)) 78 5 84) 85 (fun _ => 0)) 78 7 85) 86 (fun _ => 0)) 78 12 86) 87 (fun _ => 0)) 78 13 87) 88 (fun _ => 0)) 78 15 88) 89 (fun _ => 0)) 78 17 89) 90 (fun _ => 0)) _
  refine EvX.blk (pc' := 105) [(.putfield 45, 8, 18), (.aload_n 0, 0, 0), (.iconst 4, 0, 0)] (by decide +kernel) ⟨⟨g_Mo_45, p_Mo_45⟩, trivial⟩ ⟨rfl, kTo ho (by decide), ?_⟩
  show EvX none (d + 1) M_Mo_init 4 414 105 [(2, 78)] [(0, 4), (2, 78)] (kT 91) (zup (zrow (zup (zrow (zup (zrow (zup (zrow (zup (zrow (zup (zrow (zup (zrow (zup (zrow (zup (zrow (zup (zrow (zup (zrow (zup (zrow m 79 (fun _ => 0)) 78 0 79) 80 (fun _ => 0)) 78 1 80) 81 (fun _ => 0)) 78 2 81) 82 (fun _ => 0)) 78 3 82) 83 (fun _ => 0)) 78 4 83) 84 (fun _ => 0)) 78 5 84) 85 (fun _ => 0)) 78 7 85) 86 (fun _ => 0)) 78 12 86) 87 (fun _ => 0)) 78 13 87) 88 (fun _ => 0)) 78 15 88) 89 (fun _ => 0)) 78 17 89) 90 (fun _ => 0)) 78 18 90) _
  refine EvX.newa (atype := .int) (t := 0) (N := 4) (by decide +kernel) aC_int rfl (by decide) (by decide) (by rw [kT_len (by decide)]; decide) ?_
  rw [kT_len (by decide), kS (n := 91) rfl]
  show EvX none (d + 1) M_Mo_init 3 410 107 [(2, 78)] [(2, 91), (2, 78)] (kT 92) (zrow (zup (zrow (zup (zrow (zup (zrow (zup (zrow (zup (zrow (zup (zrow (zup (zrow (zup (zrow (zup (zrow (zup (zrow (zup (zrow (zup (zrow m 79 (fun _ => 0)) 78 0 79) 80 (fun _ => 0)) 78 1 80) 81 (fun _ => 0)) 78 2 81) 82 (fun _ => 0)) 78 3 82) 83 (fun _ => 0)) 78 4 83) 84 (fun _ => 0)) 78 5 84) 85 (fun _ => 0)) 78 7 85) 86 (fun _ => 0)) 78 12 86) 87 (fun _ => 0)) 78 13 87) 88 (fun _ => 0)) 78 15 88) 89 (fun _ => 0)) 78 17 89) 90 (fun _ => 0)) 78 18 90) 91 (fun _ => 0)) _
  refine EvX.blk (pc' := 114) [(.putfield 48, 8, 19), (.aload_n 0, 0, 0), (.sipush 400, 0, 0)] (by decide +kernel) ⟨⟨g_Mo_48, p_Mo_48⟩, trivial⟩ ⟨rfl, kTo ho (by decide), ?_⟩
  show EvX none (d + 1) M_Mo_init 3 410 114 [(2, 78)] [(0, 400), (2, 78)] (kT 92) (zup (zrow (zup (zrow (zup (zrow (zup (zrow (zup (zrow (zup (zrow (zup (zrow (zup (zrow (zup (zrow (zup (zrow (zup (zrow (zup (zrow (zup (zrow m 79 (fun _ => 0)) 78 0 79) 80 (fun _ => 0)) 78 1 80) 81 (fun _ => 0)) 78 2 81) 82 (fun _ => 0)) 78 3 82) 83 (fun _ => 0)) 78 4 83) 84 (fun _ => 0)) 78 5 84) 85 (fun _ => 0)) 78 7 85) 86 (fun _ => 0)) 78 12 86) 87 (fun _ => 0)) 78 13 87) 88 (fun _ => 0)) 78 15 88) 89 (fun _ => 0)) 78 17 89) 90 (fun _ => 0)) 78 18 90) 91 (fun _ => 0)) 78 19 91) _
  refine EvX.newa (atype := .int) (t := 0) (N := 400) (by decide +kernel) aC_int rfl (by decide) (by decide) (by rw [kT_len (by decide)]; decide) ?_
  rw [kT_len (by decide), kS (n := 92) rfl]
  show EvX none (d + 1) M_Mo_init 2 10 116 [(2, 78)] [(2, 92), (2, 78)] (kT 93) (zrow (zup (zrow (zup (zrow (zup (zrow (zup (zrow (zup (zrow (zup (zrow (zup (zrow (zup (zrow (zup (zrow (zup (zrow (zup (zrow (zup (zrow (zup (zrow m 79 (fun _ => 0)) 78 0 79) 80 (fun _ => 0)) 78 1 80) 81 (fun _ => 0)) 78 2 81) 82 (fun _ => 0)) 78 3 82) 83 (fun _ => 0)) 78 4 83) 84 (fun _ => 0)) 78 5 84) 85 (fun _ => 0)) 78 7 85) 86 (fun _ => 0)) 78 12 86) 87 (fun _ => 0)) 78 13 87) 88 (fun _ => 0)) 78 15 88) 89 (fun _ => 0)) 78 17 89) 90 (fun _ => 0)) 78 18 90) 91 (fun _ => 0)) 78 19 91) 92 (fun _ => 0)) _
  refine EvX.blk (pc' := 121) [(.putfield 51, 8, 20), (.aload_n 0, 0, 0), (.iconst 5, 0, 0)] (by decide +kernel) ⟨⟨g_Mo_51, p_Mo_51⟩, trivial⟩ ⟨rfl, kTo ho (by decide), ?_⟩
  show EvX none (d + 1) M_Mo_init 2 10 121 [(2, 78)] [(0, 5), (2, 78)] (kT 93) (zup (zrow (zup (zrow (zup (zrow (zup (zrow (zup (zrow (zup (zrow (zup (zrow (zup (zrow (zup (zrow (zup (zrow (zup (zrow (zup (zrow (zup (zrow (zup (zrow m 79 (fun _ => 0)) 78 0 79) 80 (fun _ => 0)) 78 1 80) 81 (fun _ => 0)) 78 2 81) 82 (fun _ => 0)) 78 3 82) 83 (fun _ => 0)) 78 4 83) 84 (fun _ => 0)) 78 5 84) 85 (fun _ => 0)) 78 7 85) 86 (fun _ => 0)) 78 12 86) 87 (fun _ => 0)) 78 13 87) 88 (fun _ => 0)) 78 15 88) 89 (fun _ => 0)) 78 17 89) 90 (fun _ => 0)) 78 18 90) 91 (fun _ => 0)) 78 19 91) 92 (fun _ => 0)) 78 20 92) _
  refine EvX.newa (atype := .int) (t := 0) (N := 5) (by decide +kernel) aC_int rfl (by decide) (by decide) (by rw [kT_len (by decide)]; decide) ?_
  rw [kT_len (by decide), kS (n := 93) rfl]
  show EvX none (d + 1) M_Mo_init 1 5 123 [(2, 78)] [(2, 93), (2, 78)] (kT 94) (zrow (zup (zrow (zup (zrow (zup (zrow (zup (zrow (zup (zrow (zup (zrow (zup (zrow (zup (zrow (zup (zrow (zup (zrow (zup (zrow (zup (zrow (zup (zrow (zup (zrow m 79 (fun _ => 0)) 78 0 79) 80 (fun _ => 0)) 78 1 80) 81 (fun _ => 0)) 78 2 81) 82 (fun _ => 0)) 78 3 82) 83 (fun _ => 0)) 78 4 83) 84 (fun _ => 0)) 78 5 84) 85 (fun _ => 0)) 78 7 85) 86 (fun _ => 0)) 78 12 86) 87 (fun _ => 0)) 78 13 87) 88 (fun _ => 0)) 78 15 88) 89 (fun _ => 0)) 78 17 89) 90 (fun _ => 0)) 78 18 90) 91 (fun _ => 0)) 78 19 91) 92 (fun _ => 0)) 78 20 92) 93 (fun _ => 0)) _
  refine EvX.blk (pc' := 128) [(.putfield 54, 8, 21), (.aload_n 0, 0, 0), (.iconst 5, 0, 0)] (by decide +kernel) ⟨⟨g_Mo_54, p_Mo_54⟩, trivial⟩ ⟨rfl, kTo ho (by decide), ?_⟩
  show EvX none (d + 1) M_Mo_init 1 5 128 [(2, 78)] [(0, 5), (2, 78)] (kT 94) (zup (zrow (zup (zrow (zup (zrow (zup (zrow (zup (zrow (zup (zrow (zup (zrow (zup (zrow (zup (zrow (zup (zrow (zup (zrow (zup (zrow (zup (zrow (zup (zrow (zup (zrow m 79 (fun _ => 0)) 78 0 79) 80 (fun _ => 0)) 78 1 80) 81 (fun _ => 0)) 78 2 81) 82 (fun _ => 0)) 78 3 82) 83 (fun _ => 0)) 78 4 83) 84 (fun _ => 0)) 78 5 84) 85 (fun _ => 0)) 78 7 85) 86 (fun _ => 0)) 78 12 86) 87 (fun _ => 0)) 78 13 87) 88 (fun _ => 0)) 78 15 88) 89 (fun _ => 0)) 78 17 89) 90 (fun _ => 0)) 78 18 90) 91 (fun _ => 0)) 78 19 91) 92 (fun _ => 0)) 78 20 92) 93 (fun _ => 0)) 78 21 93) _
  refine EvX.newa (atype := .int) (t := 0) (N := 5) (by decide +kernel) aC_int rfl (by decide) (by decide) (by rw [kT_len (by decide)]; decide) ?_
  rw [kT_len (by decide), kS (n := 94) rfl]
  show EvX none (d + 1) M_Mo_init 0 0 130 [(2, 78)] [(2, 94), (2, 78)] (kT 95) (zrow (zup (zrow (zup (zrow (zup (zrow (zup (zrow (zup (zrow (zup (zrow (zup (zrow (zup (zrow (zup (zrow (zup (zrow (zup (zrow (zup (zrow (zup (zrow (zup (zrow (zup (zrow m 79 (fun _ => 0)) 78 0 79) 80 (fun _ => 0)) 78 1 80) 81 (fun _ => 0)) 78 2 81) 82 (fun _ => 0)) 78 3 82) 83 (fun _ => 0)) 78 4 83) 84 (fun _ => 0)) 78 5 84) 85 (fun _ => 0)) 78 7 85) 86 (fun _ => 0)) 78 12 86) 87 (fun _ => 0)) 78 13 87) 88 (fun _ => 0)) 78 15 88) 89 (fun _ => 0)) 78 17 89) 90 (fun _ => 0)) 78 18 90) 91 (fun _ => 0)) 78 19 91) 92 (fun _ => 0)) 78 20 92) 93 (fun _ => 0)) 78 21 93) 94 (fun _ => 0)) _
  refine EvX.blk (pc' := 133) [(.putfield 57, 8, 22)] (by decide +kernel) ⟨⟨g_Mo_57, p_Mo_57⟩, trivial⟩ ⟨rfl, kTo ho (by decide), ?_⟩
  show EvX none (d + 1) M_Mo_init 0 0 133 [(2, 78)] [] (kT 95) (zup (zrow (zup (zrow (zup (zrow (zup (zrow (zup (zrow (zup (zrow (zup (zrow (zup (zrow (zup (zrow (zup (zrow (zup (zrow (zup (zrow (zup (zrow (zup (zrow (zup (zrow (zup (zrow m 79 (fun _ => 0)) 78 0 79) 80 (fun _ => 0)) 78 1 80) 81 (fun _ => 0)) 78 2 81) 82 (fun _ => 0)) 78 3 82) 83 (fun _ => 0)) 78 4 83) 84 (fun _ => 0)) 78 5 84) 85 (fun _ => 0)) 78 7 85) 86 (fun _ => 0)) 78 12 86) 87 (fun _ => 0)) 78 13 87) 88 (fun _ => 0)) 78 15 88) 89 (fun _ => 0)) 78 17 89) 90 (fun _ => 0)) 78 18 90) 91 (fun _ => 0)) 78 19 91) 92 (fun _ => 0)) 78 20 92) 93 (fun _ => 0)) 78 21 93) 94 (fun _ => 0)) 78 22 94) _
  refine EvX.ret (r := zJ) (by decide +kernel) rfl ⟨rfl, rfl, ?_⟩
  refine ⟨⟨⟨⟨⟨by decide, rfl⟩, ⟨by decide, rfl⟩, ⟨by decide, rfl⟩, ⟨by decide, rfl⟩, ⟨by decide, rfl⟩, ⟨by decide, rfl⟩, ⟨by decide, rfl⟩, ⟨by decide, rfl⟩, ⟨by decide, rfl⟩, ⟨by decide, rfl⟩, ⟨by decide, rfl⟩, ⟨by decide, rfl⟩, ⟨by decide, rfl⟩, ⟨by decide, rfl⟩, ⟨by decide, rfl⟩, ⟨by decide, rfl⟩, ⟨by decide, rfl⟩⟩, ⟨?_, ?_, ?_, ?_, ?_, ?_, ?_, ?_, ?_, ?_, ?_, ?_, ?_, ?_, ?_, ?_⟩⟩, fun i => ?_, fun i => ?_, ?_, ?_⟩, fun c hc_q => funext fun j => ?_⟩
  · simp [zup, zrow]
  · simp [zup, zrow]
  · simp [zup, zrow]
  · simp [zup, zrow]
  · simp [zup, zrow]
  · simp [zup, zrow]
  · simp [zup, zrow]
  · simp [zup, zrow]
  · simp [zup, zrow]
  · simp [zup, zrow]
  · simp [zup, zrow]
  · simp [zup, zrow]
  · simp [zup, zrow]
  · simp [zup, zrow]
  · simp [zup, zrow]
  · simp [zup, zrow]
  · simp [zup, zrow]
  · simp [zup, zrow]
  · simp [zup, zrow]
  · simp [zup, zrow]
  · simp [zup, zrow, show ¬ (c = 78) by omega, show ¬ (c = 79) by omega, show ¬ (c = 80) by omega, show ¬ (c = 81) by omega, show ¬ (c = 82) by omega, show ¬ (c = 83) by omega, show ¬ (c = 84) by omega, show ¬ (c = 85) by omega, show ¬ (c = 86) by omega, show ¬ (c = 87) by omega, show ¬ (c = 88) by omega, show ¬ (c = 89) by omega, show ¬ (c = 90) by omega, show ¬ (c = 91) by omega, show ¬ (c = 92) by omega, show ¬ (c = 93) by omega, show ¬ (c = 94) by omega]
