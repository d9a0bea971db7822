/-! CONSTRUCTORS, fourth: the class -/
theorem GOK_0 : GOK (fun _ => 0) := by
  have w : ∀ x y, gW (fun _ => 0) x y = 0 := fun x y => by unfold gW; split <;> rfl
  have v : ∀ x y a b, gV (fun _ => 0) x y a b = 0 := fun x y a b => by unfold gV; split <;> rfl
  have u : ∀ x y a b, gB (fun _ => 0) x y a b = 0 := fun x y a b => by unfold gB; split <;> rfl
  refine ⟨⟨by decide, by decide, by decide, by decide⟩, fun h => absurd h (by decide), ⟨fun x y => by rw [w]; decide, fun x y a b => by rw [v]; decide, fun x y a b => by rw [u]; decide⟩, fun x y _ => w x y, fun x y a b _ => ⟨v x y a b, u x y a b⟩⟩
theorem CG_0 {kd : ZK} {m : ZM} {g : Int} (h : GS kd m g) (q : NG m g) : CG kd m g (fun _ => 0) := ⟨h, q.1, fun x y x0_q x1_q => absurd x1_q (by show ¬ x < 0; omega), fun x y a b x0_q x1_q => absurd x1_q (by show ¬ x < 0; omega)⟩
theorem c_Ap_init {d : Nat} {m : ZM} : Ct (d + 3) M_Ap_init 77 41828 [(2, 0)] (kT 1) m (fun r kd' m' => r = zJ ∧ kd' = kT 78 ∧ AI kdF m' (fun _ => 0) (fun _ _ => 0) 0 (fun _ _ => 0) 0 (fun _ => 0) 0) := by
  have ho : zobj kdF 0 7 := ⟨by decide, rfl⟩
  have hg62 : zobj kdF 62 1 ∧ zarr kdF 63 0 25 ∧ zarr kdF 64 0 400 ∧ zarr kdF 65 0 400 := ⟨⟨by decide, rfl⟩, ⟨by decide, rfl⟩, ⟨by decide, rfl⟩, ⟨by decide, rfl⟩⟩
  have hg66 : zobj kdF 66 1 ∧ zarr kdF 67 0 25 ∧ zarr kdF 68 0 400 ∧ zarr kdF 69 0 400 := ⟨⟨by decide, rfl⟩, ⟨by decide, rfl⟩, ⟨by decide, rfl⟩, ⟨by decide, rfl⟩⟩
  have hg70 : zobj kdF 70 1 ∧ zarr kdF 71 0 25 ∧ zarr kdF 72 0 400 ∧ zarr kdF 73 0 400 := ⟨⟨by decide, rfl⟩, ⟨by decide, rfl⟩, ⟨by decide, rfl⟩, ⟨by decide, rfl⟩⟩
  have hg74 : zobj kdF 74 1 ∧ zarr kdF 75 0 25 ∧ zarr kdF 76 0 400 ∧ zarr kdF 77 0 400 := ⟨⟨by decide, rfl⟩, ⟨by decide, rfl⟩, ⟨by decide, rfl⟩, ⟨by decide, rfl⟩⟩
  have ha61 : zarr kdF 61 3 2 := ⟨by decide, rfl⟩
  refine Ct.start k_Ap_init (Nat.le_of_ble_eq_true rfl) ⟨0, Or.inl ⟨rfl, rfl⟩⟩ ?_
  show EvX none (d + 3) M_Ap_init 77 41828 0 [(2, 0)] [] (kT 1) m _
  refine EvX.blk (pc' := 1) [(.aload_n 0, 0, 0)] (by decide +kernel) trivial ?_
  show EvX none (d + 3) M_Ap_init 77 41828 1 [(2, 0)] [(2, 0)] (kT 1) m _
  refine EvX.objInit (by decide +kernel) y_Ap_1 y_obj1 y_obj2 (by decide) (Nat.le_of_ble_eq_true rfl) ?_
  show EvX none (d + 3) M_Ap_init 77 41828 4 [(2, 0)] [] (kT 1) m _
  refine EvX.blk (pc' := 5) [(.aload_n 0, 0, 0)] (by decide +kernel) trivial ?_
  show EvX none (d + 3) M_Ap_init 77 41828 5 [(2, 0)] [(2, 0)] (kT 1) m _
  refine EvX.newc (mc := 76) (ms := 41824) (n := 1) (N := 4) (by decide +kernel) (nw_Ap_7 rfl) rfl (by decide) rfl ?_
  show EvX none (d + 3) M_Ap_init 76 41824 8 [(2, 0)] [(2, 1), (2, 0)] (kT 2) (zrow m 1 (zdef 6)) _
  refine EvX.blk (pc' := 9) [(.dup, 0, 0)] (by decide +kernel) trivial ?_
  show EvX none (d + 3) M_Ap_init 76 41824 9 [(2, 0)] [(2, 1), (2, 1), (2, 0)] (kT 2) (zrow m 1 (zdef 6)) _
  refine EvX.callI (mc := 75) (ms := 41424) (as := []) (a := 1) (st := [(2, 1), (2, 0)]) (by decide +kernel) l_Ap_9 k_Tape_init i_Tape_init rfl a_Tape_init (Nat.le_of_ble_eq_true rfl) (Nat.le_of_ble_eq_true rfl) (by decide) c_Tape_init (fun r kd1 A1 w => ?_)
  obtain ⟨rfl, rfl, qTape, f1_q⟩ := w
  have f1_q : ∀ c, c < 1 → A1 c = m c := fun c hc_q => by rw [f1_q c hc_q]; funext j; exact zrow_ne (by omega)
  show EvX none (d + 3) M_Ap_init 75 41424 12 [(2, 0)] [(2, 1), (2, 0)] (kT 3) A1 _
  refine EvX.blk (pc' := 15) [(.putfield 10, 7, 0)] (by decide +kernel) ⟨⟨g_Ap_10, p_Ap_10⟩, trivial⟩ ⟨rfl, kTo ho (by decide), ?_⟩
  show EvX none (d + 3) M_Ap_init 75 41424 15 [(2, 0)] [] (kT 3) (zup A1 0 0 1) _
  obtain ⟨B1, hB1⟩ : ∃ z, z = zup A1 0 0 1 := ⟨_, rfl⟩
  rw [← hB1]
  have eB1 : ∀ c, 0 < c → c < 1 → B1 c = m c := fun c c0_q c1_q => by rw [hB1, zup_off (by omega)]; try exact f1_q c c1_q
  have z0_1 : B1 0 0 = 1 := by rw [hB1, zup_self]
  have tp_1 : TP kdF B1 (fun _ => 0) 0 := by rw [hB1]; exact qTape.frame (zup_off (by decide)) (zup_off (by decide))
  refine EvX.blk (pc' := 16) [(.aload_n 0, 0, 0)] (by decide +kernel) trivial ?_
  show EvX none (d + 3) M_Ap_init 75 41424 16 [(2, 0)] [(2, 0)] (kT 3) B1 _
  refine EvX.newc (mc := 74) (ms := 41421) (n := 3) (N := 3) (by decide +kernel) (nw_Ap_16 rfl) rfl (by decide) rfl ?_
  show EvX none (d + 3) M_Ap_init 74 41421 19 [(2, 0)] [(2, 3), (2, 0)] (kT 4) (zrow B1 3 (zdef 2)) _
  refine EvX.blk (pc' := 20) [(.dup, 0, 0)] (by decide +kernel) trivial ?_
  show EvX none (d + 3) M_Ap_init 74 41421 20 [(2, 0)] [(2, 3), (2, 3), (2, 0)] (kT 4) (zrow B1 3 (zdef 2)) _
  refine EvX.callI (mc := 33) (ms := 33091) (as := []) (a := 3) (st := [(2, 3), (2, 0)]) (by decide +kernel) l_Ap_18 k_Past_init i_Past_init rfl a_Past_init (Nat.le_of_ble_eq_true rfl) (Nat.le_of_ble_eq_true rfl) (by decide) c_Past_init (fun r kd1 A3 w => ?_)
  obtain ⟨rfl, rfl, qPast, f3_q⟩ := w
  have f3_q : ∀ c, c < 3 → A3 c = B1 c := fun c hc_q => by rw [f3_q c hc_q]; funext j; exact zrow_ne (by omega)
  show EvX none (d + 3) M_Ap_init 33 33091 23 [(2, 0)] [(2, 3), (2, 0)] (kT 45) A3 _
  refine EvX.blk (pc' := 26) [(.putfield 19, 7, 1)] (by decide +kernel) ⟨⟨g_Ap_19, p_Ap_19⟩, trivial⟩ ⟨rfl, kTo ho (by decide), ?_⟩
  show EvX none (d + 3) M_Ap_init 33 33091 26 [(2, 0)] [] (kT 45) (zup A3 0 1 3) _
  obtain ⟨B2, hB2⟩ : ∃ z, z = zup A3 0 1 3 := ⟨_, rfl⟩
  rw [← hB2]
  have eB2 : ∀ c, 0 < c → c < 3 → B2 c = B1 c := fun c c0_q c1_q => by rw [hB2, zup_off (by omega)]; try exact f3_q c c1_q
  have z0_2 : B2 0 0 = 1 := by rw [hB2, zup_nj (by decide), f3_q 0 (by decide)]; exact z0_1
  have z1_2 : B2 0 1 = 3 := by rw [hB2, zup_self]
  have tp_2 : TP kdF B2 (fun _ => 0) 0 := tp_1.frame (eB2 1 (by decide) (by decide)) (eB2 2 (by decide) (by decide))
  have pc_2 : PC kdF B2 (fun _ _ => 0) 0 := by rw [hB2]; exact qPast.frame (fun c c1_q c2_q => zup_off (by omega))
  refine EvX.blk (pc' := 27) [(.aload_n 0, 0, 0)] (by decide +kernel) trivial ?_
  show EvX none (d + 3) M_Ap_init 33 33091 27 [(2, 0)] [(2, 0)] (kT 45) B2 _
  refine EvX.newc (mc := 32) (ms := 33079) (n := 45) (N := 12) (by decide +kernel) (nw_Ap_23 rfl) rfl (by decide) rfl ?_
  show EvX none (d + 3) M_Ap_init 32 33079 30 [(2, 0)] [(2, 45), (2, 0)] (kT 46) (zrow B2 45 (zdef 5)) _
  refine EvX.blk (pc' := 31) [(.dup, 0, 0)] (by decide +kernel) trivial ?_
  show EvX none (d + 3) M_Ap_init 32 33079 31 [(2, 0)] [(2, 45), (2, 45), (2, 0)] (kT 46) (zrow B2 45 (zdef 5)) _
  refine EvX.callI (mc := 26) (ms := 3394) (as := []) (a := 45) (st := [(2, 45), (2, 0)]) (by decide +kernel) l_Ap_25 k_Table_init i_Table_init rfl a_Table_init (Nat.le_of_ble_eq_true rfl) (Nat.le_of_ble_eq_true rfl) (by decide) c_Table_init (fun r kd1 A45 w => ?_)
  obtain ⟨rfl, rfl, qTable, f45⟩ := w
  have f45 : ∀ c, c < 45 → A45 c = B2 c := fun c hc_q => by rw [f45 c hc_q]; funext j; exact zrow_ne (by omega)
  show EvX none (d + 3) M_Ap_init 26 3394 34 [(2, 0)] [(2, 45), (2, 0)] (kT 52) A45 _
  refine EvX.blk (pc' := 37) [(.putfield 26, 7, 2)] (by decide +kernel) ⟨⟨g_Ap_26, p_Ap_26⟩, trivial⟩ ⟨rfl, kTo ho (by decide), ?_⟩
  show EvX none (d + 3) M_Ap_init 26 3394 37 [(2, 0)] [] (kT 52) (zup A45 0 2 45) _
  obtain ⟨B3, hB3⟩ : ∃ z, z = zup A45 0 2 45 := ⟨_, rfl⟩
  rw [← hB3]
  have eB3 : ∀ c, 0 < c → c < 45 → B3 c = B2 c := fun c c0_q c1_q => by rw [hB3, zup_off (by omega)]; try exact f45 c c1_q
  have z0_3 : B3 0 0 = 1 := by rw [hB3, zup_nj (by decide), f45 0 (by decide)]; exact z0_2
  have z1_3 : B3 0 1 = 3 := by rw [hB3, zup_nj (by decide), f45 0 (by decide)]; exact z1_2
  have z2_3 : B3 0 2 = 45 := by rw [hB3, zup_self]
  have tp_3 : TP kdF B3 (fun _ => 0) 0 := tp_2.frame (eB3 1 (by decide) (by decide)) (eB3 2 (by decide) (by decide))
  have pc_3 : PC kdF B3 (fun _ _ => 0) 0 := pc_2.frame (fun c c1_q c2_q => eB3 c (by omega) (by omega))
  have tb_3 : TB kdF B3 := by rw [hB3]; exact qTable.frame (zup_off (by decide))
  refine EvX.blk (pc' := 38) [(.aload_n 0, 0, 0)] (by decide +kernel) trivial ?_
  show EvX none (d + 3) M_Ap_init 26 3394 38 [(2, 0)] [(2, 0)] (kT 52) B3 _
  refine EvX.newc (mc := 25) (ms := 3391) (n := 52) (N := 3) (by decide +kernel) (nw_Ap_30 rfl) rfl (by decide) rfl ?_
  show EvX none (d + 3) M_Ap_init 25 3391 41 [(2, 0)] [(2, 52), (2, 0)] (kT 53) (zrow B3 52 (zdef 0)) _
  refine EvX.blk (pc' := 42) [(.dup, 0, 0)] (by decide +kernel) trivial ?_
  show EvX none (d + 3) M_Ap_init 25 3391 42 [(2, 0)] [(2, 52), (2, 52), (2, 0)] (kT 53) (zrow B3 52 (zdef 0)) _
  refine EvX.callI (mc := 22) (ms := 3376) (as := []) (a := 52) (st := [(2, 52), (2, 0)]) (by decide +kernel) l_Ap_32 k_Duo_init i_Duo_init rfl a_Duo_init (Nat.le_of_ble_eq_true rfl) (Nat.le_of_ble_eq_true rfl) (by decide) c_Duo_init (fun r kd1 A52 w => ?_)
  obtain ⟨rfl, rfl, qDuo, f52⟩ := w
  have f52 : ∀ c, c < 52 → A52 c = B3 c := fun c hc_q => by rw [f52 c hc_q]; funext j; exact zrow_ne (by omega)
  show EvX none (d + 3) M_Ap_init 22 3376 45 [(2, 0)] [(2, 52), (2, 0)] (kT 56) A52 _
  refine EvX.blk (pc' := 48) [(.putfield 33, 7, 3)] (by decide +kernel) ⟨⟨g_Ap_33, p_Ap_33⟩, trivial⟩ ⟨rfl, kTo ho (by decide), ?_⟩
  show EvX none (d + 3) M_Ap_init 22 3376 48 [(2, 0)] [] (kT 56) (zup A52 0 3 52) _
  obtain ⟨B4, hB4⟩ : ∃ z, z = zup A52 0 3 52 := ⟨_, rfl⟩
  rw [← hB4]
  have eB4 : ∀ c, 0 < c → c < 52 → B4 c = B3 c := fun c c0_q c1_q => by rw [hB4, zup_off (by omega)]; try exact f52 c c1_q
  have z0_4 : B4 0 0 = 1 := by rw [hB4, zup_nj (by decide), f52 0 (by decide)]; exact z0_3
  have z1_4 : B4 0 1 = 3 := by rw [hB4, zup_nj (by decide), f52 0 (by decide)]; exact z1_3
  have z2_4 : B4 0 2 = 45 := by rw [hB4, zup_nj (by decide), f52 0 (by decide)]; exact z2_3
  have z3_4 : B4 0 3 = 52 := by rw [hB4, zup_self]
  have tp_4 : TP kdF B4 (fun _ => 0) 0 := tp_3.frame (eB4 1 (by decide) (by decide)) (eB4 2 (by decide) (by decide))
  have pc_4 : PC kdF B4 (fun _ _ => 0) 0 := pc_3.frame (fun c c1_q c2_q => eB4 c (by omega) (by omega))
  have tb_4 : TB kdF B4 := tb_3.frame (eB4 45 (by decide) (by decide))
  have du_4 : DU kdF B4 := by rw [hB4]; exact qDuo.frame (zup_off (by decide))
  refine EvX.blk (pc' := 49) [(.aload_n 0, 0, 0)] (by decide +kernel) trivial ?_
  show EvX none (d + 3) M_Ap_init 22 3376 49 [(2, 0)] [(2, 0)] (kT 56) B4 _
  refine EvX.newc (mc := 21) (ms := 3373) (n := 56) (N := 3) (by decide +kernel) (nw_Ap_37 rfl) rfl (by decide) rfl ?_
  show EvX none (d + 3) M_Ap_init 21 3373 52 [(2, 0)] [(2, 56), (2, 0)] (kT 57) (zrow B4 56 (zdef 4)) _
  refine EvX.blk (pc' := 53) [(.dup, 0, 0)] (by decide +kernel) trivial ?_
  show EvX none (d + 3) M_Ap_init 21 3373 53 [(2, 0)] [(2, 56), (2, 56), (2, 0)] (kT 57) (zrow B4 56 (zdef 4)) _
  refine EvX.callI (mc := 18) (ms := 3333) (as := []) (a := 56) (st := [(2, 56), (2, 0)]) (by decide +kernel) l_Ap_39 k_Shape_init i_Shape_init rfl a_Shape_init (Nat.le_of_ble_eq_true rfl) (Nat.le_of_ble_eq_true rfl) (by decide) c_Shape_init (fun r kd1 A56 w => ?_)
  obtain ⟨rfl, rfl, qShape, f56⟩ := w
  have f56 : ∀ c, c < 56 → A56 c = B4 c := fun c hc_q => by rw [f56 c hc_q]; funext j; exact zrow_ne (by omega)
  show EvX none (d + 3) M_Ap_init 18 3333 56 [(2, 0)] [(2, 56), (2, 0)] (kT 60) A56 _
  refine EvX.blk (pc' := 59) [(.putfield 40, 7, 4)] (by decide +kernel) ⟨⟨g_Ap_40, p_Ap_40⟩, trivial⟩ ⟨rfl, kTo ho (by decide), ?_⟩
  show EvX none (d + 3) M_Ap_init 18 3333 59 [(2, 0)] [] (kT 60) (zup A56 0 4 56) _
  obtain ⟨B5, hB5⟩ : ∃ z, z = zup A56 0 4 56 := ⟨_, rfl⟩
  rw [← hB5]
  have eB5 : ∀ c, 0 < c → c < 56 → B5 c = B4 c := fun c c0_q c1_q => by rw [hB5, zup_off (by omega)]; try exact f56 c c1_q
  have z0_5 : B5 0 0 = 1 := by rw [hB5, zup_nj (by decide), f56 0 (by decide)]; exact z0_4
  have z1_5 : B5 0 1 = 3 := by rw [hB5, zup_nj (by decide), f56 0 (by decide)]; exact z1_4
  have z2_5 : B5 0 2 = 45 := by rw [hB5, zup_nj (by decide), f56 0 (by decide)]; exact z2_4
  have z3_5 : B5 0 3 = 52 := by rw [hB5, zup_nj (by decide), f56 0 (by decide)]; exact z3_4
  have z4_5 : B5 0 4 = 56 := by rw [hB5, zup_self]
  have tp_5 : TP kdF B5 (fun _ => 0) 0 := tp_4.frame (eB5 1 (by decide) (by decide)) (eB5 2 (by decide) (by decide))
  have pc_5 : PC kdF B5 (fun _ _ => 0) 0 := pc_4.frame (fun c c1_q c2_q => eB5 c (by omega) (by omega))
  have tb_5 : TB kdF B5 := tb_4.frame (eB5 45 (by decide) (by decide))
  have du_5 : DU kdF B5 := du_4.frame (eB5 52 (by decide) (by decide))
  have sh_5 : SH kdF B5 := by rw [hB5]; exact qShape.frame (zup_off (by decide))
  refine EvX.blk (pc' := 60) [(.aload_n 0, 0, 0)] (by decide +kernel) trivial ?_
  show EvX none (d + 3) M_Ap_init 18 3333 60 [(2, 0)] [(2, 0)] (kT 60) B5 _
  refine EvX.newc (mc := 17) (ms := 3330) (n := 60) (N := 3) (by decide +kernel) (nw_Ap_44 rfl) rfl (by decide) rfl ?_
  show EvX none (d + 3) M_Ap_init 17 3330 63 [(2, 0)] [(2, 60), (2, 0)] (kT 61) (zrow B5 60 (zdef 3)) _
  refine EvX.blk (pc' := 64) [(.dup, 0, 0)] (by decide +kernel) trivial ?_
  show EvX none (d + 3) M_Ap_init 17 3330 64 [(2, 0)] [(2, 60), (2, 60), (2, 0)] (kT 61) (zrow B5 60 (zdef 3)) _
  refine EvX.callI (mc := 17) (ms := 3330) (as := []) (a := 60) (st := [(2, 60), (2, 0)]) (by decide +kernel) l_Ap_46 k_Scribe_init i_Scribe_init rfl a_Scribe_init (Nat.le_of_ble_eq_true rfl) (Nat.le_of_ble_eq_true rfl) (by decide) c_Scribe_init (fun r kd1 A60 w => ?_)
  obtain ⟨rfl, rfl, qScribe, f60⟩ := w
  have f60 : ∀ c, c < 60 → A60 c = B5 c := fun c hc_q => by rw [f60 c hc_q]; funext j; exact zrow_ne (by omega)
  show EvX none (d + 3) M_Ap_init 17 3330 67 [(2, 0)] [(2, 60), (2, 0)] (kT 61) A60 _
  refine EvX.blk (pc' := 70) [(.putfield 47, 7, 5)] (by decide +kernel) ⟨⟨g_Ap_47, p_Ap_47⟩, trivial⟩ ⟨rfl, kTo ho (by decide), ?_⟩
  show EvX none (d + 3) M_Ap_init 17 3330 70 [(2, 0)] [] (kT 61) (zup A60 0 5 60) _
  obtain ⟨B6, hB6⟩ : ∃ z, z = zup A60 0 5 60 := ⟨_, rfl⟩
  rw [← hB6]
  have eB6 : ∀ c, 0 < c → c < 60 → B6 c = B5 c := fun c c0_q c1_q => by rw [hB6, zup_off (by omega)]; try exact f60 c c1_q
  have z0_6 : B6 0 0 = 1 := by rw [hB6, zup_nj (by decide), f60 0 (by decide)]; exact z0_5
  have z1_6 : B6 0 1 = 3 := by rw [hB6, zup_nj (by decide), f60 0 (by decide)]; exact z1_5
  have z2_6 : B6 0 2 = 45 := by rw [hB6, zup_nj (by decide), f60 0 (by decide)]; exact z2_5
  have z3_6 : B6 0 3 = 52 := by rw [hB6, zup_nj (by decide), f60 0 (by decide)]; exact z3_5
  have z4_6 : B6 0 4 = 56 := by rw [hB6, zup_nj (by decide), f60 0 (by decide)]; exact z4_5
  have z5_6 : B6 0 5 = 60 := by rw [hB6, zup_self]
  have tp_6 : TP kdF B6 (fun _ => 0) 0 := tp_5.frame (eB6 1 (by decide) (by decide)) (eB6 2 (by decide) (by decide))
  have pc_6 : PC kdF B6 (fun _ _ => 0) 0 := pc_5.frame (fun c c1_q c2_q => eB6 c (by omega) (by omega))
  have tb_6 : TB kdF B6 := tb_5.frame (eB6 45 (by decide) (by decide))
  have du_6 : DU kdF B6 := du_5.frame (eB6 52 (by decide) (by decide))
  have sh_6 : SH kdF B6 := sh_5.frame (eB6 56 (by decide) (by decide))
  refine EvX.blk (pc' := 72) [(.aload_n 0, 0, 0), (.iconst 2, 0, 0)] (by decide +kernel) trivial ?_
  show EvX none (d + 3) M_Ap_init 17 3330 72 [(2, 0)] [(0, 2), (2, 0)] (kT 61) B6 _
  refine EvX.newq (mc := 16) (ms := 3328) (N := 2) (by decide +kernel) aC_Game.1 (by decide) (by rw [kT_len (by decide)]; decide) ?_
  rw [kT_len (by decide), kS (n := 61) rfl]
  show EvX none (d + 3) M_Ap_init 16 3328 75 [(2, 0)] [(2, 61), (2, 0)] (kT 62) (zrow B6 61 (fun _ => -1)) _
  have fz : ∀ c, c < 61 → (zrow B6 61 (fun _ => -1)) c = B6 c := fun c hc_q => funext fun j => zrow_ne (by omega)
  generalize zrow B6 61 (fun _ => -1) = Z0 at fz ⊢
  refine EvX.blk (pc' := 77) [(.dup, 0, 0), (.iconst 0, 0, 0)] (by decide +kernel) trivial ?_
  show EvX none (d + 3) M_Ap_init 16 3328 77 [(2, 0)] [(0, 0), (2, 61), (2, 61), (2, 0)] (kT 62) Z0 _
  refine EvX.newGk (mc := 12) (ms := 2496) (n := 62) (by decide +kernel) (by decide +kernel) (by decide +kernel) (nw_Ap_51 rfl) l_Ap_53 (Nat.le_of_ble_eq_true rfl) (by decide) ⟨rfl, rfl, rfl, rfl⟩ (fun N62 f62 q62 => ?_)
  show EvX none (d + 3) M_Ap_init 12 2496 84 [(2, 0)] [(2, 62), (0, 0), (2, 61), (2, 61), (2, 0)] (kT 66) N62 _
  refine EvX.blk (pc' := 85) [(.aastore, 0, 0)] (by decide +kernel) trivial ⟨⟨2, kTa ha61 (by decide), by decide, by decide⟩, kTo hg62.1 (by decide), ?_⟩
  show EvX none (d + 3) M_Ap_init 12 2496 85 [(2, 0)] [(2, 61), (2, 0)] (kT 66) (zup N62 61 0 62) _
  have fz1 : ∀ c, c < 61 → (zup N62 61 0 62) c = B6 c := fun c hc_q => by rw [zup_off (by omega), f62 c (by omega)]; exact fz c hc_q
  have s0_q : (zup N62 61 0 62) 61 0 = 62 := zup_self
  have g62 : NG (zup N62 61 0 62) 62 := q62.frame (zup_off (by decide))
  generalize zup N62 61 0 62 = Z1 at fz1 s0_q g62 ⊢
  refine EvX.blk (pc' := 87) [(.dup, 0, 0), (.iconst 1, 0, 0)] (by decide +kernel) trivial ?_
  show EvX none (d + 3) M_Ap_init 12 2496 87 [(2, 0)] [(0, 1), (2, 61), (2, 61), (2, 0)] (kT 66) Z1 _
  refine EvX.newGk (mc := 8) (ms := 1664) (n := 66) (by decide +kernel) (by decide +kernel) (by decide +kernel) (nw_Ap_51 rfl) l_Ap_53 (Nat.le_of_ble_eq_true rfl) (by decide) ⟨rfl, rfl, rfl, rfl⟩ (fun N66 f66 q66 => ?_)
  show EvX none (d + 3) M_Ap_init 8 1664 94 [(2, 0)] [(2, 66), (0, 1), (2, 61), (2, 61), (2, 0)] (kT 70) N66 _
  refine EvX.blk (pc' := 95) [(.aastore, 0, 0)] (by decide +kernel) trivial ⟨⟨2, kTa ha61 (by decide), by decide, by decide⟩, kTo hg66.1 (by decide), ?_⟩
  show EvX none (d + 3) M_Ap_init 8 1664 95 [(2, 0)] [(2, 61), (2, 0)] (kT 70) (zup N66 61 1 66) _
  have fz2 : ∀ c, c < 61 → (zup N66 61 1 66) c = B6 c := fun c hc_q => by rw [zup_off (by omega), f66 c (by omega)]; exact fz1 c hc_q
  have t0_q : (zup N66 61 1 66) 61 0 = 62 := by rw [zup_nj (by decide), f66 61 (by decide)]; exact s0_q
  have t1_q : (zup N66 61 1 66) 61 1 = 66 := zup_self
  have u62 : NG (zup N66 61 1 66) 62 := g62.frame (by rw [zup_off (by decide), f66 62 (by decide)])
  have u66 : NG (zup N66 61 1 66) 66 := q66.frame (zup_off (by decide))
  generalize zup N66 61 1 66 = Z2 at fz2 t0_q t1_q u62 u66 ⊢
  refine EvX.blk (pc' := 98) [(.putfield 54, 7, 6)] (by decide +kernel) ⟨⟨g_Ap_54, p_Ap_54⟩, trivial⟩ ⟨rfl, kTo ho (by decide), ?_⟩
  show EvX none (d + 3) M_Ap_init 8 1664 98 [(2, 0)] [] (kT 70) (zup Z2 0 6 61) _
  obtain ⟨B7, hB7⟩ : ∃ z, z = zup Z2 0 6 61 := ⟨_, rfl⟩
  rw [← hB7]
  have eB7 : ∀ c, 0 < c → c < 61 → B7 c = B6 c := fun c c0_q c1_q => by rw [hB7, zup_off (by omega)]; try exact fz2 c c1_q
  have z0_7 : B7 0 0 = 1 := by rw [hB7, zup_nj (by decide), fz2 0 (by decide)]; exact z0_6
  have z1_7 : B7 0 1 = 3 := by rw [hB7, zup_nj (by decide), fz2 0 (by decide)]; exact z1_6
  have z2_7 : B7 0 2 = 45 := by rw [hB7, zup_nj (by decide), fz2 0 (by decide)]; exact z2_6
  have z3_7 : B7 0 3 = 52 := by rw [hB7, zup_nj (by decide), fz2 0 (by decide)]; exact z3_6
  have z4_7 : B7 0 4 = 56 := by rw [hB7, zup_nj (by decide), fz2 0 (by decide)]; exact z4_6
  have z5_7 : B7 0 5 = 60 := by rw [hB7, zup_nj (by decide), fz2 0 (by decide)]; exact z5_6
  have z6_7 : B7 0 6 = 61 := by rw [hB7, zup_self]
  have tp_7 : TP kdF B7 (fun _ => 0) 0 := tp_6.frame (eB7 1 (by decide) (by decide)) (eB7 2 (by decide) (by decide))
  have pc_7 : PC kdF B7 (fun _ _ => 0) 0 := pc_6.frame (fun c c1_q c2_q => eB7 c (by omega) (by omega))
  have tb_7 : TB kdF B7 := tb_6.frame (eB7 45 (by decide) (by decide))
  have du_7 : DU kdF B7 := du_6.frame (eB7 52 (by decide) (by decide))
  have sh_7 : SH kdF B7 := sh_6.frame (eB7 56 (by decide) (by decide))
  have s0_7 : B7 61 0 = 62 := by rw [hB7]; exact (by rw [zup_off (by decide)]; exact t0_q)
  have s1_7 : B7 61 1 = 66 := by rw [hB7]; exact (by rw [zup_off (by decide)]; exact t1_q)
  have g62_7 : NG B7 62 := by rw [hB7]; exact u62.frame (zup_off (by decide))
  have g66_7 : NG B7 66 := by rw [hB7]; exact u66.frame (zup_off (by decide))
  refine EvX.blk (pc' := 103) [(.aload_n 0, 0, 0), (.iconst 0, 0, 0), (.putfield 58, 7, 7)] (by decide +kernel) ⟨⟨g_Ap_58, p_Ap_58⟩, trivial⟩ ⟨rfl, kTo ho (by decide), ?_⟩
  show EvX none (d + 3) M_Ap_init 8 1664 103 [(2, 0)] [] (kT 70) (zup B7 0 7 0) _
  have fr7 : ∀ c : Int, c < 70 → B7 c = B7 c := fun _ _ => rfl
  obtain ⟨B8, hB8⟩ : ∃ z, z = zup B7 0 7 0 := ⟨_, rfl⟩
  rw [← hB8]
  have eB8 : ∀ c, 0 < c → c < 70 → B8 c = B7 c := fun c c0_q c1_q => by rw [hB8, zup_off (by omega)]; try exact fr7 c c1_q
  have z0_8 : B8 0 0 = 1 := by rw [hB8, zup_nj (by decide), fr7 0 (by decide)]; exact z0_7
  have z1_8 : B8 0 1 = 3 := by rw [hB8, zup_nj (by decide), fr7 0 (by decide)]; exact z1_7
  have z2_8 : B8 0 2 = 45 := by rw [hB8, zup_nj (by decide), fr7 0 (by decide)]; exact z2_7
  have z3_8 : B8 0 3 = 52 := by rw [hB8, zup_nj (by decide), fr7 0 (by decide)]; exact z3_7
  have z4_8 : B8 0 4 = 56 := by rw [hB8, zup_nj (by decide), fr7 0 (by decide)]; exact z4_7
  have z5_8 : B8 0 5 = 60 := by rw [hB8, zup_nj (by decide), fr7 0 (by decide)]; exact z5_7
  have z6_8 : B8 0 6 = 61 := by rw [hB8, zup_nj (by decide), fr7 0 (by decide)]; exact z6_7
  have z7_8 : B8 0 7 = 0 := by rw [hB8, zup_self]
  have tp_8 : TP kdF B8 (fun _ => 0) 0 := tp_7.frame (eB8 1 (by decide) (by decide)) (eB8 2 (by decide) (by decide))
  have pc_8 : PC kdF B8 (fun _ _ => 0) 0 := pc_7.frame (fun c c1_q c2_q => eB8 c (by omega) (by omega))
  have tb_8 : TB kdF B8 := tb_7.frame (eB8 45 (by decide) (by decide))
  have du_8 : DU kdF B8 := du_7.frame (eB8 52 (by decide) (by decide))
  have sh_8 : SH kdF B8 := sh_7.frame (eB8 56 (by decide) (by decide))
  have s0_8 : B8 61 0 = 62 := by rw [eB8 61 (by decide) (by decide)]; exact s0_7
  have s1_8 : B8 61 1 = 66 := by rw [eB8 61 (by decide) (by decide)]; exact s1_7
  have g62_8 : NG B8 62 := g62_7.frame (eB8 62 (by decide) (by decide))
  have g66_8 : NG B8 66 := g66_7.frame (eB8 66 (by decide) (by decide))
  refine EvX.blk (pc' := 104) [(.aload_n 0, 0, 0)] (by decide +kernel) trivial ?_
  show EvX none (d + 3) M_Ap_init 8 1664 104 [(2, 0)] [(2, 0)] (kT 70) B8 _
  refine EvX.newGk (mc := 4) (ms := 832) (n := 70) (by decide +kernel) (by decide +kernel) (by decide +kernel) (nw_Ap_51 rfl) l_Ap_53 (Nat.le_of_ble_eq_true rfl) (by decide) ⟨rfl, rfl, rfl, rfl⟩ (fun N70 f70 q70 => ?_)
  show EvX none (d + 3) M_Ap_init 4 832 111 [(2, 0)] [(2, 70), (2, 0)] (kT 74) N70 _
  refine EvX.blk (pc' := 114) [(.putfield 62, 7, 8)] (by decide +kernel) ⟨⟨g_Ap_62, p_Ap_62⟩, trivial⟩ ⟨rfl, kTo ho (by decide), ?_⟩
  show EvX none (d + 3) M_Ap_init 4 832 114 [(2, 0)] [] (kT 74) (zup N70 0 8 70) _
  obtain ⟨B9, hB9⟩ : ∃ z, z = zup N70 0 8 70 := ⟨_, rfl⟩
  rw [← hB9]
  have eB9 : ∀ c, 0 < c → c < 70 → B9 c = B8 c := fun c c0_q c1_q => by rw [hB9, zup_off (by omega)]; try exact f70 c c1_q
  have z0_9 : B9 0 0 = 1 := by rw [hB9, zup_nj (by decide), f70 0 (by decide)]; exact z0_8
  have z1_9 : B9 0 1 = 3 := by rw [hB9, zup_nj (by decide), f70 0 (by decide)]; exact z1_8
  have z2_9 : B9 0 2 = 45 := by rw [hB9, zup_nj (by decide), f70 0 (by decide)]; exact z2_8
  have z3_9 : B9 0 3 = 52 := by rw [hB9, zup_nj (by decide), f70 0 (by decide)]; exact z3_8
  have z4_9 : B9 0 4 = 56 := by rw [hB9, zup_nj (by decide), f70 0 (by decide)]; exact z4_8
  have z5_9 : B9 0 5 = 60 := by rw [hB9, zup_nj (by decide), f70 0 (by decide)]; exact z5_8
  have z6_9 : B9 0 6 = 61 := by rw [hB9, zup_nj (by decide), f70 0 (by decide)]; exact z6_8
  have z7_9 : B9 0 7 = 0 := by rw [hB9, zup_nj (by decide), f70 0 (by decide)]; exact z7_8
  have z8_9 : B9 0 8 = 70 := by rw [hB9, zup_self]
  have tp_9 : TP kdF B9 (fun _ => 0) 0 := tp_8.frame (eB9 1 (by decide) (by decide)) (eB9 2 (by decide) (by decide))
  have pc_9 : PC kdF B9 (fun _ _ => 0) 0 := pc_8.frame (fun c c1_q c2_q => eB9 c (by omega) (by omega))
  have tb_9 : TB kdF B9 := tb_8.frame (eB9 45 (by decide) (by decide))
  have du_9 : DU kdF B9 := du_8.frame (eB9 52 (by decide) (by decide))
  have sh_9 : SH kdF B9 := sh_8.frame (eB9 56 (by decide) (by decide))
  have s0_9 : B9 61 0 = 62 := by rw [eB9 61 (by decide) (by decide)]; exact s0_8
  have s1_9 : B9 61 1 = 66 := by rw [eB9 61 (by decide) (by decide)]; exact s1_8
  have g62_9 : NG B9 62 := g62_8.frame (eB9 62 (by decide) (by decide))
  have g66_9 : NG B9 66 := g66_8.frame (eB9 66 (by decide) (by decide))
  have g70_9 : NG B9 70 := by rw [hB9]; exact q70.frame (zup_off (by decide))
  refine EvX.blk (pc' := 115) [(.aload_n 0, 0, 0)] (by decide +kernel) trivial ?_
  show EvX none (d + 3) M_Ap_init 4 832 115 [(2, 0)] [(2, 0)] (kT 74) B9 _
  refine EvX.newGk (mc := 0) (ms := 0) (n := 74) (by decide +kernel) (by decide +kernel) (by decide +kernel) (nw_Ap_51 rfl) l_Ap_53 (Nat.le_of_ble_eq_true rfl) (by decide) ⟨rfl, rfl, rfl, rfl⟩ (fun N74 f74 q74 => ?_)
  show EvX none (d + 3) M_Ap_init 0 0 122 [(2, 0)] [(2, 74), (2, 0)] (kT 78) N74 _
  refine EvX.blk (pc' := 125) [(.putfield 66, 7, 9)] (by decide +kernel) ⟨⟨g_Ap_66, p_Ap_66⟩, trivial⟩ ⟨rfl, kTo ho (by decide), ?_⟩
  show EvX none (d + 3) M_Ap_init 0 0 125 [(2, 0)] [] (kT 78) (zup N74 0 9 74) _
  obtain ⟨B10, hB10⟩ : ∃ z, z = zup N74 0 9 74 := ⟨_, rfl⟩
  rw [← hB10]
  have eB10 : ∀ c, 0 < c → c < 74 → B10 c = B9 c := fun c c0_q c1_q => by rw [hB10, zup_off (by omega)]; try exact f74 c c1_q
  have z0_10 : B10 0 0 = 1 := by rw [hB10, zup_nj (by decide), f74 0 (by decide)]; exact z0_9
  have z1_10 : B10 0 1 = 3 := by rw [hB10, zup_nj (by decide), f74 0 (by decide)]; exact z1_9
  have z2_10 : B10 0 2 = 45 := by rw [hB10, zup_nj (by decide), f74 0 (by decide)]; exact z2_9
  have z3_10 : B10 0 3 = 52 := by rw [hB10, zup_nj (by decide), f74 0 (by decide)]; exact z3_9
  have z4_10 : B10 0 4 = 56 := by rw [hB10, zup_nj (by decide), f74 0 (by decide)]; exact z4_9
  have z5_10 : B10 0 5 = 60 := by rw [hB10, zup_nj (by decide), f74 0 (by decide)]; exact z5_9
  have z6_10 : B10 0 6 = 61 := by rw [hB10, zup_nj (by decide), f74 0 (by decide)]; exact z6_9
  have z7_10 : B10 0 7 = 0 := by rw [hB10, zup_nj (by decide), f74 0 (by decide)]; exact z7_9
  have z8_10 : B10 0 8 = 70 := by rw [hB10, zup_nj (by decide), f74 0 (by decide)]; exact z8_9
  have z9_10 : B10 0 9 = 74 := by rw [hB10, zup_self]
  have tp_10 : TP kdF B10 (fun _ => 0) 0 := tp_9.frame (eB10 1 (by decide) (by decide)) (eB10 2 (by decide) (by decide))
  have pc_10 : PC kdF B10 (fun _ _ => 0) 0 := pc_9.frame (fun c c1_q c2_q => eB10 c (by omega) (by omega))
  have tb_10 : TB kdF B10 := tb_9.frame (eB10 45 (by decide) (by decide))
  have du_10 : DU kdF B10 := du_9.frame (eB10 52 (by decide) (by decide))
  have sh_10 : SH kdF B10 := sh_9.frame (eB10 56 (by decide) (by decide))
  have s0_10 : B10 61 0 = 62 := by rw [eB10 61 (by decide) (by decide)]; exact s0_9
  have s1_10 : B10 61 1 = 66 := by rw [eB10 61 (by decide) (by decide)]; exact s1_9
  have g62_10 : NG B10 62 := g62_9.frame (eB10 62 (by decide) (by decide))
  have g66_10 : NG B10 66 := g66_9.frame (eB10 66 (by decide) (by decide))
  have g70_10 : NG B10 70 := g70_9.frame (eB10 70 (by decide) (by decide))
  have g74_10 : NG B10 74 := by rw [hB10]; exact q74.frame (zup_off (by decide))
  refine EvX.ret (r := zJ) (by decide +kernel) rfl ⟨rfl, rfl, ?_⟩
  have hG : ∀ g : Int, (zobj kdF g 1 ∧ zarr kdF (g + 1) 0 25 ∧ zarr kdF (g + 2) 0 400 ∧ zarr kdF (g + 3) 0 400) → NG B10 g → GS kdF B10 g := fun g h q => ⟨h.1, q.2, h.2⟩
  have c70 := CG_0 (hG 70 hg70 g70_10) g70_10
  refine ⟨⟨ho, ⟨z0_10, z1_10, z2_10, z3_10, z4_10, z5_10, z6_10⟩, z7_10, Or.inl ⟨z8_10, z9_10⟩⟩, ⟨by rw [z8_10]; exact c70, GOK_0⟩, by rw [z9_10]; exact hG 74 hg74 g74_10, pc_10, ⟨tb_10, du_10, sh_10, ⟨by decide, rfl⟩⟩, tp_10, ⟨ha61, s0_10, s1_10, hG 62 hg62 g62_10, hG 66 hg66 g66_10⟩, ⟨by decide, by decide⟩, fun b => absurd b (sbit_0 (by decide)), fun b => absurd b (sbit_0 (by decide))⟩
