/-! GAME, fifth: draw -/
theorem zushr16 (x : Int) : 0 ≤ zushr x 16 ∧ zushr x 16 < 65536 := by
  unfold zushr
  rw [show (Int32.ofInt 16).toUInt32 &&& Int32.toUInt32 31 = (16 : UInt32) from rfl]
  generalize (Int32.ofInt x).toUInt32 = u
  have h : (u >>> 16).toNat < 65536 := by
    rw [UInt32.toNat_shiftRight, show (16 : UInt32).toNat % 32 = 16 from rfl, Nat.shiftRight_eq_div_pow]
    have := u.toNat_lt
    omega
  have e : (u >>> 16).toInt32.toInt = ((u >>> 16).toNat : Int) := by
    show (u >>> 16).toBitVec.toInt = _
    rw [BitVec.toInt_eq_toNat_of_lt (by show 2 * (u >>> 16).toNat < 2 ^ 32; omega)]
    rfl
  rw [e]
  omega
theorem dW_v (s : Int) : 1 ≤ dW s ∧ dW s ≤ 4 := by
  have h := zushr16 s
  unfold dW
  rw [Int.tmod_eq_emod_of_nonneg h.1, iw_s (by omega) (by omega)]
  omega
theorem dV_v (s : Int) : 0 ≤ dV s ∧ dV s ≤ 1 := by
  have h := zushr16 s
  unfold dV
  rw [Int.tmod_eq_emod_of_nonneg h.1]
  omega
theorem c_Game_drawAll {d : Nat} {kd : ZK} {m : ZM} {g : Int} {G : GR} {seed : Int} (hg : CG kd m g G) (ho : GOK G) : CtV (d + 3) M_Game_drawAll [(2, g), (0, seed)] kd m (fun m1 => DI kd m g G m1 (opDraw G seed).2) := by
  have h0 := ho.1
  have L0 := zfor2 (G 0) (fun (x : Int) (mm : ZM) (p0 : Int × GR) => Ev (d + 3) M_Game_drawAll 0 0 4 [(2, g), zJ, (0, p0.1), (0, x), zJ, zJ, zJ] [] kd mm (zqV kd (fun m1 => DI kd m g G m1 (opDraw G seed).2))) (fun (x : Int) (mm : ZM) (p0 : Int × GR) => 0 ≤ x ∧ True ∧ DI kd m g G mm p0.2 ∧ p0 = zfold x.toNat (fun x p => opD1 G x p) (seed, G)) (by
    intro x mm p0 hb hI0 KL0
    obtain ⟨hi0, hb0_, hD0, hP0⟩ := hI0
    have e0 := hD0.1.2.1
    have z0 := hD0.2.2.1
    have L1 := zfor2 (G 1) (fun (y : Int) (mm : ZM) (p1 : Int × GR) => Ev (d + 3) M_Game_drawAll 0 0 15 [(2, g), zJ, (0, p1.1), (0, x), (0, y), zJ, zJ] [] kd mm (zqV kd (fun m1 => DI kd m g G m1 (opDraw G seed).2))) (fun (y : Int) (mm : ZM) (p1 : Int × GR) => 0 ≤ y ∧ x < G 0 ∧ DI kd m g G mm p1.2 ∧ p1 = zfold y.toNat (fun y p => opD2 G x y p) p0) (by
      intro y mm p1 hb hI1 KL1
      obtain ⟨hi1, hb1_, hD1, hP1⟩ := hI1
      have e1 := hD1.1.2.1
      have z1 := hD1.2.2.1
      have L2 := zfor2 (G 2) (fun (a : Int) (mm : ZM) (p2 : Int × GR) => Ev (d + 3) M_Game_drawAll 0 0 52 [(2, g), zJ, (0, p2.1), (0, x), (0, y), (0, a), zJ] [] kd mm (zqV kd (fun m1 => DI kd m g G m1 (opDraw G seed).2))) (fun (a : Int) (mm : ZM) (p2 : Int × GR) => 0 ≤ a ∧ y < G 1 ∧ DI kd m g G mm p2.2 ∧ p2 = zfold a.toNat (fun a p => opD3 G x y a p) (nst p1.1, gup p1.2 (4 + zC 0 x y) (dW (nst p1.1)))) (by
        intro a mm p2 hb hI2 KL2
        obtain ⟨hi2, hb2_, hD2, hP2⟩ := hI2
        have e2 := hD2.1.2.1
        have z2 := hD2.2.2.1
        have L3 := zfor2 (G 3) (fun (b : Int) (mm : ZM) (p3 : Int × GR) => Ev (d + 3) M_Game_drawAll 0 0 64 [(2, g), zJ, (0, p3.1), (0, x), (0, y), (0, a), (0, b)] [] kd mm (zqV kd (fun m1 => DI kd m g G m1 (opDraw G seed).2))) (fun (b : Int) (mm : ZM) (p3 : Int × GR) => 0 ≤ b ∧ a < G 2 ∧ DI kd m g G mm p3.2 ∧ p3 = zfold b.toNat (fun b p => (nst p.1, gup p.2 (29 + zS 0 x y a b) (dV (nst p.1)))) p2) (by
          intro b mm p3 hb hI3 KL3
          obtain ⟨hi3, hb3_, hD3, hP3⟩ := hI3
          have e3 := hD3.1.2.1
          have z3 := hD3.2.2.1
          refine T_Game_drawAll_64 ?_
          refine ⟨hD3.1.1.1, ?_⟩
          refine ⟨fun c1 => ?_, fun c1 => ?_⟩
          · skip
            rw [iw_s (x := a + 1) (by omega) (by omega)]
            exact KL2 mm p3 (by omega) ⟨by omega, by omega, hD3, by rw [zfold_1 hi2, ← hP2, hP3, show b = G 3 by omega]; rfl⟩
          · skip
            refine ⟨_, c_Game_nextState, ?_⟩
            rintro _ _ ⟨rfl, rfl⟩
            refine ⟨hD3.1.1.1, ?_⟩
            refine ⟨_, c_Ap_spotOf (by omega) (by omega) (by omega) (by omega), ?_⟩
            rintro _ _ ⟨rfl, rfl⟩
            refine ⟨hD3.1.1.inV (zS_in (by omega) (by omega) (by omega) (by omega)), ?_⟩
            rw [iw_s (x := b + 1) (by omega) (by omega)]
            exact KL3 _ (nst p3.1, gup p3.2 (29 + zS 0 x y a b) (dV (nst p3.1))) (by omega) ⟨by omega, by omega, hD3.putV (p := 0) (Or.inl rfl) (show 0 ≤ x ∧ x < G 0 by omega) (show 0 ≤ y ∧ y < G 1 by omega) (show 0 ≤ a ∧ a < G 2 by omega) (show 0 ≤ b ∧ b < G 3 by omega) (v := dV (nst p3.1)) (dV_v _), by rw [zfold_1 hi3, ← hP3]⟩)
        refine T_Game_drawAll_52 ?_
        refine ⟨hD2.1.1.1, ?_⟩
        refine ⟨fun c1 => ?_, fun c1 => ?_⟩
        · skip
          rw [iw_s (x := y + 1) (by omega) (by omega)]
          exact KL1 mm p2 (by omega) ⟨by omega, by omega, hD2, by rw [zfold_1 hi1, ← hP1, hP2, show a = G 2 by omega]; rfl⟩
        · skip
          exact L3 0 mm p2 (by omega) ⟨by omega, by omega, hD2, rfl⟩)
      refine T_Game_drawAll_15 ?_
      refine ⟨hD1.1.1.1, ?_⟩
      refine ⟨fun c1 => ?_, fun c1 => ?_⟩
      · skip
        rw [iw_s (x := x + 1) (by omega) (by omega)]
        exact KL0 mm p1 (by omega) ⟨by omega, trivial, hD1, by rw [zfold_1 hi0, ← hP0, hP1, show y = G 1 by omega]; rfl⟩
      · skip
        refine ⟨_, c_Game_nextState, ?_⟩
        rintro _ _ ⟨rfl, rfl⟩
        refine ⟨hD1.1.1.1, ?_⟩
        refine ⟨_, c_Ap_cellOf (by omega) (by omega), ?_⟩
        rintro _ _ ⟨rfl, rfl⟩
        refine ⟨hD1.1.1.inW (zC_in (by omega) (by omega)), ?_⟩
        exact L2 0 _ (nst p1.1, gup p1.2 (4 + zC 0 x y) (dW (nst p1.1))) (by omega) ⟨by omega, by omega, hD1.putW (p := 0) (Or.inl rfl) (show 0 ≤ x ∧ x < G 0 by omega) (show 0 ≤ y ∧ y < G 1 by omega) (v := dW (nst p1.1)) (by have := dW_v (nst p1.1); omega), rfl⟩)
    refine T_Game_drawAll_4 ?_
    refine ⟨hD0.1.1.1, ?_⟩
    refine ⟨fun c1 => ?_, fun c1 => ?_⟩
    · skip
      rw [show x = G 0 by omega] at hP0
      rw [hP0] at hD0
      exact hD0
    · skip
      exact L1 0 mm p0 (by omega) ⟨by omega, by omega, hD0, rfl⟩)
  refine S_Game_drawAll ?_
  exact L0 0 m (seed, G) (by omega) ⟨by omega, trivial, DI.rf hg ho, rfl⟩
