/-! THE MODEL, fourth: all rows gone through -/
/-- what a reader of the model may change -/
def MF (m m1_q : ZM) : Prop := (∀ c, ((c < 80 ∧ c ≠ 78) ∨ (81 < c ∧ c < 86)) → m1_q c = m c) ∧ ∀ k, (k < 9 ∨ k = 12 ∨ k = 13 ∨ k = 15 ∨ (16 < k ∧ k < 23)) → m1_q 78 k = m 78 k
theorem MF.rf {m : ZM} : MF m m := ⟨fun _ _ => rfl, fun _ _ => rfl⟩
theorem MF.tr {m m1_q m2_q : ZM} (h : MF m m1_q) (k : MF m1_q m2_q) : MF m m2_q := ⟨fun c hc_q => by rw [k.1 c hc_q, h.1 c hc_q], fun c hc_q => by rw [k.2 c hc_q, h.2 c hc_q]⟩
theorem MF.of {m m1_q : ZM} (h : ∀ c, (c < 86 ∨ 94 < c) → m1_q c = m c) : MF m m1_q := ⟨fun c hc_q => h c (by omega), fun k _ => by rw [h 78 (by omega)]⟩
theorem MF.up {m m1_q : ZM} {k v : Int} (h : MF m m1_q) (hk : k = 16 ∨ (8 < k ∧ k < 12) ∨ k = 14 ∨ 22 < k) : MF m (zup m1_q 78 k v) := ⟨fun c hc_q => by rw [zup_off (by omega)]; exact h.1 c hc_q, fun j hj => by rw [zup_nj (by omega)]; exact h.2 j hj⟩
theorem MG.mf {kd : ZK} {m m1_q : ZM} {G : GR} (h : MG kd m G) (k : MF m m1_q) : MG kd m1_q G := by
  obtain ⟨⟨h1, h2⟩, h3, h4⟩ := h
  refine ⟨⟨h1, ?_⟩, by rw [k.1 79 (by omega)]; exact h3, h4⟩
  have e := k.2
  unfold MR at h2 ⊢
  rw [e 0 (by omega), e 1 (by omega), e 2 (by omega), e 3 (by omega), e 4 (by omega), e 5 (by omega), e 7 (by omega), e 12 (by omega), e 13 (by omega), e 15 (by omega), e 17 (by omega), e 18 (by omega), e 19 (by omega), e 20 (by omega), e 21 (by omega), e 22 (by omega)]
  exact h2
theorem rM0 : rM 0 = 86 := rfl
theorem rM1 : rM 1 = 87 := rfl
/-- the rows of a player, what the least and the most are that they bring -/
def loH (G : GR) (p c : Int) : Int := tLow (nQ G p) (nQ G (1 - p)) (nA G (1 - p)) (fP G p) (erow (nQ G p) (nA G p) c)
def hiH (G : GR) (c : Int) : Int := tHigh (G 0) (G 1) (G 3) (fP G 0) (erow (G 0) (G 2) c)
theorem hiH_b {G : GR} (ho : GOK G) (ht : 0 < G 0) (c : Int) : 0 ≤ hiH G c ∧ hiH G c ≤ 225 := by
  have h0 := ho.1
  have h1 := ho.2.1 ht
  have := zsum_le (C := 45) (f := fun g => tHi (G 0) (G 3) (fP G 0) (erow (G 0) (G 2) c) g) (by decide) (fun g => (tHi_b ho (p := 0) (o := g) (r := erow (G 0) (G 2) c) (Or.inl rfl) (show 1 ≤ nA G (1 - 0) from (by show 1 ≤ G 3; omega))).1) (G 1).toNat
  unfold hiH tHigh
  omega
theorem mx_hi0 {G : GR} (ho : GOK G) (ht : 0 < G 0) : isMx G (hi0 (hiH G) (G 2 ^ (G 0).toNat).toNat) := by
  have h1 := ho.2.1 ht
  have hp : (0 : Int) < G 2 ^ (G 0).toNat := Int.pow_pos (by omega)
  have e : (G 2 ^ (G 0).toNat).toNat = (G 2 ^ (G 0).toNat - 1).toNat + 1 := by omega
  rw [e, hi0_zhi _ (fun i _ _ => (hiH_b ho ht i).1)]
  refine ⟨fun r hr => ?_, ?_⟩
  · obtain ⟨c, qc_0, qc_1, qc_2⟩ := erow_all (show 0 < G 2 by omega) hr
    rw [← tHigh_congr qc_2]
    exact zhi_le (h := hiH G) _ c qc_0 (by omega)
  · obtain ⟨j, j0, j1, e⟩ := zhi_at (h := hiH G) (G 2 ^ (G 0).toNat - 1).toNat
    exact ⟨_, erow_rw j (show 0 < G 2 by omega), by rw [e]; rfl⟩
theorem zam_fst {h : Int → Int} : ∀ n : Nat, ∀ e : Int, 0 ≤ e → e < zam n h → h e ≠ zhi n h := by
  intro n
  induction n with
  | zero => intro e e0_q e1_q; simp only [zam] at e1_q; omega
  | succ n ih =>
    intro e e0_q e1_q
    have h1 := zam_1 (i := (n : Int)) (by omega) h
    have h2 := zhi_1 (i := (n : Int)) (by omega) h
    rw [show ((n : Int) + 1).toNat = n + 1 by omega, show ((n : Int)).toNat = n by omega] at h1 h2
    rw [h1] at e1_q
    rw [h2]
    split at e1_q
    · rename_i hlt
      have := zhi_le (h := h) n e e0_q (by omega)
      have := zmax_r (zhi n h) (h (n + 1))
      omega
    · have h3 := ih e e0_q e1_q
      have := zhi_le (h := h) n e e0_q (by have := zam_in (h := h) n; omega)
      have := zmax_l (zhi n h) (h (n + 1))
      omega
theorem rows1 {G : GR} (ho : GOK G) (ht : 0 < G 0) (p : Int) : 1 ≤ nA G p ^ (nQ G p).toNat := by
  have := ho.tA ht p
  have : (0 : Int) < nA G p ^ (nQ G p).toNat := Int.pow_pos (by omega)
  omega
theorem rd9 {G : GR} (ho : GOK G) {p : Int} {r : Int → Int} (h : isRw G p r) : ∀ q, 0 ≤ q → q < nQ G p → 0 ≤ r q ∧ r q ≤ 9 := fun q q0 q1_q => by
  have := h q q0 q1_q
  have := ho.a p
  omega
theorem rwE {G : GR} {p c : Int} {r : Int → Int} (ha_q : 0 < nA G p) (h : ∀ j, 0 ≤ j → j < nQ G p → r j = erow (nQ G p) (nA G p) c j) : isRw G p r := fun q q0 q1_q => by
  rw [h q q0 q1_q]; exact dgt_in ha_q
theorem c_Mo_mostWorth {d : Nat} {kd : ZK} {m : ZM} {G : GR} (h : MG kd m G) (ht : 0 < G 0) : CtI (d + 6) M_Mo_mostWorth [(2, 78)] kd m (fun x m1_q => isMx G x ∧ ∀ e, e ≠ 86 → e ≠ 88 → m1_q e = m e) := by
  have r0 := h.s.r0
  have r1_q := h.s.r1
  have r2 := h.s.r2
  have r3 := h.s.r3
  have r4 := h.s.r4
  have r5_q := h.s.r5
  have r7 := h.s.r7
  have r12 := h.s.r12
  have r13 := h.s.r13
  have r15 := h.s.r15
  have r17 := h.s.r17
  have r18 := h.s.r18
  have r19 := h.s.r19
  have r20 := h.s.r20
  have r21 := h.s.r21
  have r22 := h.s.r22
  have hto : 0 < G 0 := ht
  have tA := fun p => h.ok.tA hto p
  have tQ := fun p => h.ok.tQ hto p
  have r0 := rM0
  have r1_q := rM1
  have qL0 := zfor3 ((nA G 0 ^ (nQ G 0).toNat)) (fun (i : Int) (mm : ZM) (b : Int) (t : Int) => Ev (d + 6) M_Mo_mostWorth 0 0 9 [(2, 78), (0, b), (0, t)] [] kd mm (zqI kd (fun x m1_q => isMx G x ∧ ∀ e, e ≠ 86 → e ≠ 88 → m1_q e = m e))) (fun (i : Int) (mm : ZM) (b : Int) (t : Int) => 0 ≤ i ∧ (∀ e, e ≠ 86 → e ≠ 88 → mm e = m e) ∧ b = hi0 (hiH G) i.toNat ∧ t = zb (i < (nA G 0 ^ (nQ G 0).toNat)) ∧ (i < (nA G 0 ^ (nQ G 0).toNat) → ∀ j, 0 ≤ j → j < nQ G 0 → mm (rM 0) j = erow (nQ G 0) (nA G 0) i j)) (by
    intro i mm b t hb_q hI0 qKL0
    obtain ⟨hi_, hF, hb_, ht_, hEE⟩ := hI0
    have hm_q : MG kd mm G := h.mf (MF.of (fun c hc_q => hF c (by omega) (by omega)))
    refine T_Mo_mostWorth_9 ?_
    refine ⟨fun qc_1 => ?_, fun qc_1 => ?_⟩
    · skip
      have hn : ¬ i < (nA G 0 ^ (nQ G 0).toNat) := zb_eq0.1 (ht_.symm.trans qc_1)
      refine ⟨?_, hF⟩
      rw [hb_, show i = (nA G 0 ^ (nQ G 0).toNat) by omega]
      exact mx_hi0 h.ok hto
    · have hlt : i < (nA G 0 ^ (nQ G 0).toNat) := zb_ne0.1 (fun e_ => qc_1 (ht_.trans e_))
      refine ⟨hm_q.s.o, _, c_Mo_reached hm_q (Or.inl rfl) (rwE (by have := tA 0; omega) (hEE hlt)) (by have := tA (1 - 0); omega), ?_⟩
      rintro x2_q m3_q ⟨x3, f3_q⟩
      rw [if_neg (by decide)] at x3
      have hm3 : MG kd m3_q G := hm_q.mf (MF.of (fun c hc_q => f3_q c (by omega)))
      have hx : x2_q = hiH G i := by rw [x3]; exact tHigh_congr (hEE hlt)
      refine ⟨hm_q.s.o, _, c_Mo_goesOn (c := i) hm3 (Or.inl rfl) (by have := tA 0; omega) (fun j j0 j1 => by rw [f3_q (rM 0) (by decide)]; exact hEE hlt j j0 j1) ⟨hi_, hlt⟩, ?_⟩
      rintro x5_q m6_q ⟨x6, e6_q, f6_q⟩
      exact qKL0 _ _ _ (by omega) ⟨by omega, fun e e1_q e2_q => by rw [f6_q e (by rw [r0]; exact e1_q), f3_q e e2_q, hF e e1_q e2_q], by rw [hi0_1 hi_, ← hb_, hx], x6, fun hl => e6_q hl⟩)
  refine S_Mo_mostWorth ?_
  refine ⟨h.s.o, _, c_Mo_laysFirst h, ?_⟩
  rintro m3_q ⟨f3_q, z3⟩
  exact qL0 0 m3_q 0 1 (by have := rows1 h.ok hto 0; omega) ⟨by decide, fun e e1_q e2_q => f3_q e (by rw [r0]; exact e1_q), rfl, (zbT (by have := rows1 h.ok hto 0; omega)), fun _ j j0 j1 => by rw [erow_0 j (by have := tA 0; omega)]; exact z3 j j0 (by have := tQ 0; omega)⟩
theorem c_Mo_leastWorth {d : Nat} {kd : ZK} {m : ZM} {G : GR} (h : MG kd m G) (ht : 0 < G 0) : CtI (d + 6) M_Mo_leastWorth [(2, 78)] kd m (fun x m1_q => x = lowL G ∧ ∀ e, e ≠ 86 → e ≠ 88 → m1_q e = m e) := by
  have r0 := h.s.r0
  have r1_q := h.s.r1
  have r2 := h.s.r2
  have r3 := h.s.r3
  have r4 := h.s.r4
  have r5_q := h.s.r5
  have r7 := h.s.r7
  have r12 := h.s.r12
  have r13 := h.s.r13
  have r15 := h.s.r15
  have r17 := h.s.r17
  have r18 := h.s.r18
  have r19 := h.s.r19
  have r20 := h.s.r20
  have r21 := h.s.r21
  have r22 := h.s.r22
  have hto : 0 < G 0 := ht
  have tA := fun p => h.ok.tA hto p
  have tQ := fun p => h.ok.tQ hto p
  have r0 := rM0
  have r1_q := rM1
  have tLow_congr : ∀ {p : Int} {r s : Int → Int}, (∀ q, 0 ≤ q → q < nQ G p → r q = s q) → tLow (nQ G p) (nQ G (1 - p)) (nA G (1 - p)) (fP G p) r = tLow (nQ G p) (nQ G (1 - p)) (nA G (1 - p)) (fP G p) s := fun {p r s} hh => zsum_congr _ (fun g _ _ => zlo_congr _ (fun j _ _ => zS_congr hh _))
  have qL0 := zfor2 (((nA G 0 ^ (nQ G 0).toNat) - 1)) (fun (i : Int) (mm : ZM) (b : Int) => Ev (d + 6) M_Mo_leastWorth 0 0 12 [(2, 78), (0, b)] [] kd mm (zqI kd (fun x m1_q => x = lowL G ∧ ∀ e, e ≠ 86 → e ≠ 88 → m1_q e = m e))) (fun (i : Int) (mm : ZM) (b : Int) => 0 ≤ i ∧ (∀ e, e ≠ 86 → e ≠ 88 → mm e = m e) ∧ b = zlo i.toNat (loH G 0) ∧ (∀ j, 0 ≤ j → j < nQ G 0 → mm (rM 0) j = erow (nQ G 0) (nA G 0) i j)) (by
    intro i mm b hb_q hI0 qKL0
    obtain ⟨hi_, hF, hb_, hEE⟩ := hI0
    have hm_q : MG kd mm G := h.mf (MF.of (fun c hc_q => hF c (by omega) (by omega)))
    refine T_Mo_leastWorth_12 ?_
    refine ⟨hm_q.s.o, _, c_Mo_goesOn (c := i) hm_q (Or.inl rfl) (by have := tA 0; omega) hEE ⟨hi_, by omega⟩, ?_⟩
    rintro x2_q m3_q ⟨x3, e3_q, f3_q⟩
    have hm3 : MG kd m3_q G := hm_q.mf (MF.of (fun c hc_q => f3_q c (by omega)))
    refine ⟨fun qc_1 => ?_, fun qc_1 => ?_⟩
    · skip
      have hn : ¬ i + 1 < (nA G 0 ^ (nQ G 0).toNat) := zb_eq0.1 (x3.symm.trans qc_1)
      refine ⟨?_, fun e e1_q e2_q => by rw [f3_q e (by rw [r0]; exact e1_q), hF e e1_q e2_q]⟩
      rw [hb_, show i = (nA G 0 ^ (nQ G 0).toNat) - 1 by omega]
      rfl
    · have hlt : i + 1 < (nA G 0 ^ (nQ G 0).toNat) := zb_ne0.1 (fun e_ => qc_1 (x3.trans e_))
      refine ⟨hm_q.s.o, _, c_Mo_reached hm3 (Or.inl rfl) (rwE (by have := tA 0; omega) (e3_q hlt)) (by have := tA (1 - 0); omega), ?_⟩
      rintro x5_q m6_q ⟨x6, f6_q⟩
      rw [if_pos rfl] at x6
      have hx : x5_q = loH G 0 (i + 1) := by rw [x6]; exact tLow_congr (e3_q hlt)
      exact qKL0 _ _ (by omega) ⟨by omega, fun e e1_q e2_q => by rw [f6_q e e2_q, f3_q e (by rw [r0]; exact e1_q), hF e e1_q e2_q], by rw [zlo_1 hi_, ← hb_, hx], fun j j0 j1 => by rw [f6_q (rM 0) (by decide)]; exact e3_q hlt j j0 j1⟩)
  refine S_Mo_leastWorth ?_
  refine ⟨h.s.o, _, c_Mo_laysFirst h, ?_⟩
  rintro m3_q ⟨f3_q, z3⟩
  have hE0 : ∀ j, 0 ≤ j → j < nQ G 0 → m3_q (rM 0) j = erow (nQ G 0) (nA G 0) 0 j := fun j j0 j1 => by rw [erow_0 j (by have := tA (0); omega)]; exact z3 j j0 (by have := tQ (0); omega)
  have hm3 : MG kd m3_q G := h.mf (MF.of (fun c hc_q => f3_q c (by have := rM_in (0); omega)))
  refine ⟨h.s.o, _, c_Mo_reached hm3 (Or.inl rfl) (rwE (by have := tA 0; omega) hE0) (by have := tA (1 - 0); omega), ?_⟩
  rintro x5_q m6_q ⟨x6, f6_q⟩
  rw [if_pos rfl] at x6
  exact qL0 0 m6_q x5_q (by have := rows1 h.ok hto 0; omega) ⟨by decide, fun e e1_q e2_q => by rw [f6_q e e2_q, f3_q e (by rw [r0]; exact e1_q)], by rw [x6]; exact tLow_congr hE0, fun j j0 j1 => by rw [f6_q (rM 0) (by decide)]; exact hE0 j j0 j1⟩
theorem c_Mo_sureOf {d : Nat} {kd : ZK} {m : ZM} {G : GR} {p : Int} (h : MG kd m G) (hp : p = 0 ∨ p = 1) (ht : 0 < G 0) : CtI (d + 6) M_Mo_sureOf [(2, 78), (0, p)] kd m (fun x m1_q => x = lowM G p ∧ lowPl G p (m1_q 78 16) ∧ MF m m1_q) := by
  have r0 := h.s.r0
  have r1_q := h.s.r1
  have r2 := h.s.r2
  have r3 := h.s.r3
  have r4 := h.s.r4
  have r5_q := h.s.r5
  have r7 := h.s.r7
  have r12 := h.s.r12
  have r13 := h.s.r13
  have r15 := h.s.r15
  have r17 := h.s.r17
  have r18 := h.s.r18
  have r19 := h.s.r19
  have r20 := h.s.r20
  have r21 := h.s.r21
  have r22 := h.s.r22
  have hto : 0 < G 0 := ht
  have tA := fun p => h.ok.tA hto p
  have tQ := fun p => h.ok.tQ hto p
  have r0 := rM0
  have r1_q := rM1
  have tLow_congr : ∀ {p : Int} {r s : Int → Int}, (∀ q, 0 ≤ q → q < nQ G p → r q = s q) → tLow (nQ G p) (nQ G (1 - p)) (nA G (1 - p)) (fP G p) r = tLow (nQ G p) (nQ G (1 - p)) (nA G (1 - p)) (fP G p) s := fun {p r s} hh => zsum_congr _ (fun g _ _ => zlo_congr _ (fun j _ _ => zS_congr hh _))
  have qL0 := zfor2 (((nA G p ^ (nQ G p).toNat) - 1)) (fun (i : Int) (mm : ZM) (b : Int) => Ev (d + 6) M_Mo_sureOf 0 0 17 [(2, 78), (0, p), (0, b), zJ] [] kd mm (zqI kd (fun x m1_q => x = lowM G p ∧ lowPl G p (m1_q 78 16) ∧ MF m m1_q))) (fun (i : Int) (mm : ZM) (b : Int) => 0 ≤ i ∧ MF m mm ∧ b = zhi i.toNat (loH G p) ∧ mm 78 16 = zhn (nQ G p).toNat (erow (nQ G p) (nA G p) (zam i.toNat (loH G p))) ∧ (∀ j, 0 ≤ j → j < nQ G p → mm (rM p) j = erow (nQ G p) (nA G p) i j)) (by
    intro i mm b hb_q hI0 qKL0
    obtain ⟨hi_, hF, hb_, hs_, hEE⟩ := hI0
    have hm_q : MG kd mm G := h.mf hF
    have hri := rM_in p
    have z1 := zhi_1 hi_ (loH G p)
    have z2 := zam_1 hi_ (loH G p)
    refine T_Mo_sureOf_17 ?_
    refine ⟨hm_q.s.o, _, c_Mo_goesOn (c := i) hm_q hp (by have := tA p; omega) hEE ⟨hi_, by omega⟩, ?_⟩
    rintro x2_q m3_q ⟨x3, e3_q, f3_q⟩
    have F3 : MF mm m3_q := MF.of (fun c hc_q => f3_q c (by omega))
    have hm3 : MG kd m3_q G := hm_q.mf F3
    refine ⟨fun qc_1 => ?_, fun qc_1 => ?_⟩
    · skip
      have hn : ¬ i + 1 < (nA G p ^ (nQ G p).toNat) := zb_eq0.1 (x3.symm.trans qc_1)
      have ei : i = (nA G p ^ (nQ G p).toNat) - 1 := by omega
      refine ⟨by rw [hb_, ei]; rfl, ?_, hF.tr F3⟩
      rw [show m3_q 78 16 = mm 78 16 by rw [f3_q 78 (by omega)], hs_, ei]
      have hz := zam_in (h := loH G p) ((nA G p ^ (nQ G p).toNat) - 1).toNat
      exact ⟨_, ⟨⟨hz.1, by omega⟩, fun e e0_q e1_q => zam_fst _ e e0_q e1_q, Or.inl (show loH G p (zam ((nA G p ^ (nQ G p).toNat) - 1).toNat (loH G p)) = zhi ((nA G p ^ (nQ G p).toNat) - 1).toNat (loH G p) from zam_at (h := loH G p) _)⟩, rfl⟩
    · have hlt : i + 1 < (nA G p ^ (nQ G p).toNat) := zb_ne0.1 (fun e_ => qc_1 (x3.trans e_))
      refine ⟨hm_q.s.o, _, c_Mo_reached hm3 hp (rwE (by have := tA p; omega) (e3_q hlt)) (by have := tA (1 - p); omega), ?_⟩
      rintro x5_q m6_q ⟨x6, f6_q⟩
      rw [if_pos rfl] at x6
      have hx : x5_q = loH G p (i + 1) := by rw [x6]; exact tLow_congr (e3_q hlt)
      have F6 : MF m3_q m6_q := MF.of (fun c hc_q => f6_q c (by omega))
      have hm6 : MG kd m6_q G := hm3.mf F6
      have hE6 : ∀ j, 0 ≤ j → j < nQ G p → m6_q (rM p) j = erow (nQ G p) (nA G p) (i + 1) j := fun j j0 j1 => by rw [f6_q (rM p) (by omega)]; exact e3_q hlt j j0 j1
      have h16_q : m6_q 78 16 = mm 78 16 := by rw [f6_q 78 (by omega), f3_q 78 (by omega)]
      refine ⟨fun qc_2 => ?_, fun qc_2 => ?_⟩
      · skip
        first | exact qKL0 _ _ (by omega) ⟨by omega, (hF.tr F3).tr F6, by rw [z1, ← hb_, ← hx]; unfold zmax; split <;> omega, by rw [h16_q, hs_, z2, if_neg (by rw [← hb_, ← hx]; omega)], hE6⟩ | exact qKL0 _ _ (by omega) ⟨by omega, ((hF.tr F3).tr F6).up (by omega), by rw [z1, ← hb_, ← hx]; unfold zmax; split <;> omega, by rw [zup_self, z2, if_pos (by rw [← hb_, ← hx]; omega)]; exact zhn_congr _ (fun q q0 q1_q => hE6 q q0 (by omega)), fun j j0 j1 => by rw [zup_off (by omega)]; exact hE6 j j0 j1⟩
      · skip
        refine ⟨hm_q.s.o, _, c_Mo_toldOf hm6 hp (rd9 h.ok (rwE (by have := tA p; omega) hE6)), ?_⟩
        rintro _ _ ⟨rfl, rfl⟩
        refine ⟨hm_q.s.o, ?_⟩
        first | exact qKL0 _ _ (by omega) ⟨by omega, (hF.tr F3).tr F6, by rw [z1, ← hb_, ← hx]; unfold zmax; split <;> omega, by rw [h16_q, hs_, z2, if_neg (by rw [← hb_, ← hx]; omega)], hE6⟩ | exact qKL0 _ _ (by omega) ⟨by omega, ((hF.tr F3).tr F6).up (by omega), by rw [z1, ← hb_, ← hx]; unfold zmax; split <;> omega, by rw [zup_self, z2, if_pos (by rw [← hb_, ← hx]; omega)]; exact zhn_congr _ (fun q q0 q1_q => hE6 q q0 (by omega)), fun j j0 j1 => by rw [zup_off (by omega)]; exact hE6 j j0 j1⟩)
  refine S_Mo_sureOf ?_
  refine ⟨h.s.o, _, c_Mo_laysFirst h, ?_⟩
  rintro m3_q ⟨f3_q, z3⟩
  have hri := rM_in p
  have hE0 : ∀ j, 0 ≤ j → j < nQ G p → m3_q (rM p) j = erow (nQ G p) (nA G p) 0 j := fun j j0 j1 => by rw [erow_0 j (by have := tA (p); omega)]; exact z3 j j0 (by have := tQ (p); omega)
  have hm3 : MG kd m3_q G := h.mf (MF.of (fun c hc_q => f3_q c (by have := rM_in (p); omega)))
  refine ⟨h.s.o, _, c_Mo_reached hm3 hp (rwE (by have := tA p; omega) hE0) (by have := tA (1 - p); omega), ?_⟩
  rintro x5_q m6_q ⟨x6, f6_q⟩
  rw [if_pos rfl] at x6
  refine ⟨h.s.o, ?_⟩
  have F6 : MF m m6_q := MF.of (fun c hc_q => by rw [f6_q c (by omega), f3_q c (by omega)])
  refine qL0 0 _ x5_q (by have := rows1 h.ok hto p; omega) ⟨by decide, F6.up (by omega), by rw [x6]; exact tLow_congr hE0, ?_, fun j j0 j1 => by rw [zup_off (by omega), f6_q (rM p) (by omega)]; exact hE0 j j0 j1⟩
  rw [zup_self]
  have e0_q : ∀ n : Nat, zhn n (erow (nQ G p) (nA G p) 0) = 0 := fun n => by
    induction n with
    | zero => rfl
    | succ n ih => rw [zhn, ih, erow_0 _ (by have := tA p; omega)]; rfl
  exact (e0_q _).symm
theorem c_Mo_worth {d : Nat} {kd : ZK} {m : ZM} {G : GR} (h : MG kd m G) {w : Int} : CtI (d + 7) M_Mo_worth [(2, 78), (0, w)] kd m (fun x m1_q => (pWorth G w x) ∧ MF m m1_q) := by
  have r0 := h.s.r0
  have r1_q := h.s.r1
  have r2 := h.s.r2
  have r3 := h.s.r3
  have r4 := h.s.r4
  have r5_q := h.s.r5
  have r7 := h.s.r7
  have r12 := h.s.r12
  have r13 := h.s.r13
  have r15 := h.s.r15
  have r17 := h.s.r17
  have r18 := h.s.r18
  have r19 := h.s.r19
  have r20 := h.s.r20
  have r21 := h.s.r21
  have r22 := h.s.r22
  have hok := h.ok.1
  have hq0 : nQ G 0 = G 0 := rfl
  have hq1 : nQ G 1 = G 1 := rfl
  have ha0 : nA G 0 = G 2 := rfl
  have ha1 : nA G 1 = G 3 := rfl
  refine S_Mo_worth ?_
  try simp only [r0, r1_q, r2, r3, r4, r5_q, r7, r12, r13, r15, r17, r18, r19, r20, r21, r22]
  refine ⟨h.s.o, _, c_Mo_hasGame h, ?_⟩
  rintro _ _ ⟨rfl, rfl⟩
  try simp only [r0, r1_q, r2, r3, r4, r5_q, r7, r12, r13, r15, r17, r18, r19, r20, r21, r22]
  refine ⟨fun qc_1 => ?_, fun qc_1 => ?_⟩
  · replace qc_1 := zb_ne0.1 qc_1
    have hto : 0 < G 0 := qc_1
    refine ⟨fun qc_0 => ?_, fun qc_0 => ?_, fun qc_0 => ?_, fun qc_0 => ?_, fun qc_0 => ?_, fun qc_0 => ?_⟩
    · skip
      refine ⟨(zcs_t qc_1 ?_), MF.rf⟩
      refine ⟨fun e => ?_, fun e => ?_, fun e => ?_, fun e => ?_, fun e => ?_, fun e => ?_⟩ <;> first | exact absurd e (by omega) | rfl
    · skip
      refine ⟨h.s.o, _, c_Mo_mostWorth h hto, ?_⟩
      rintro x5_q m6_q ⟨i6_q, f6_q⟩
      have F6 : MF m m6_q := MF.of (fun c hc_q => f6_q c (by omega) (by omega))
      refine ⟨(zcs_t qc_1 ?_), F6⟩
      refine ⟨fun e => ?_, fun e => ?_, fun e => ?_, fun e => ?_, fun e => ?_, fun e => ?_⟩ <;> first | exact absurd e (by omega) | exact i6_q
    · skip
      refine ⟨h.s.o, _, c_Mo_allWeights h, ?_⟩
      rintro _ _ ⟨rfl, rfl⟩
      try simp only [r0, r1_q, r2, r3, r4, r5_q, r7, r12, r13, r15, r17, r18, r19, r20, r21, r22]
      refine ⟨(zcs_t qc_1 ?_), MF.rf⟩
      refine ⟨fun e => ?_, fun e => ?_, fun e => ?_, fun e => ?_, fun e => ?_, fun e => ?_⟩ <;> first | exact absurd e (by omega) | rfl
    · skip
      refine ⟨h.s.o, _, c_Mo_leastWorth h hto, ?_⟩
      rintro x11 m12_q ⟨i12_q, f12_q⟩
      have F12 : MF m m12_q := MF.of (fun c hc_q => f12_q c (by omega) (by omega))
      refine ⟨(zcs_t qc_1 ?_), F12⟩
      refine ⟨fun e => ?_, fun e => ?_, fun e => ?_, fun e => ?_, fun e => ?_, fun e => ?_⟩ <;> first | exact absurd e (by omega) | exact i12_q
    · skip
      refine ⟨h.s.o, _, c_Mo_sureOf h (Or.inl rfl) hto, ?_⟩
      rintro x14 m15 ⟨i15, j15_q, F15⟩
      refine ⟨(zcs_t qc_1 ?_), F15⟩
      refine ⟨fun e => ?_, fun e => ?_, fun e => ?_, fun e => ?_, fun e => ?_, fun e => ?_⟩ <;> first | exact absurd e (by omega) | exact i15
    · skip
      refine ⟨h.s.o, _, c_Mo_sureOf h (Or.inr rfl) hto, ?_⟩
      rintro x17 m18 ⟨i18, j18_q, F18⟩
      refine ⟨(zcs_t qc_1 ?_), F18⟩
      refine ⟨fun e => ?_, fun e => ?_, fun e => ?_, fun e => ?_, fun e => ?_, fun e => ?_⟩ <;> first | exact absurd e (by omega) | exact i18
  · replace qc_1 := zb_eq0.1 (Classical.not_not.1 qc_1)
    refine ⟨(zcs_f qc_1 rfl), MF.rf⟩
theorem c_Mo_sure {d : Nat} {kd : ZK} {m : ZM} {G : GR} (h : MG kd m G) {p : Int} : CtI (d + 7) M_Mo_sure [(2, 78), (0, p)] kd m (fun x m1_q => (pSure G p x) ∧ MF m m1_q) := by
  have r0 := h.s.r0
  have r1_q := h.s.r1
  have r2 := h.s.r2
  have r3 := h.s.r3
  have r4 := h.s.r4
  have r5_q := h.s.r5
  have r7 := h.s.r7
  have r12 := h.s.r12
  have r13 := h.s.r13
  have r15 := h.s.r15
  have r17 := h.s.r17
  have r18 := h.s.r18
  have r19 := h.s.r19
  have r20 := h.s.r20
  have r21 := h.s.r21
  have r22 := h.s.r22
  have hok := h.ok.1
  have hq0 : nQ G 0 = G 0 := rfl
  have hq1 : nQ G 1 = G 1 := rfl
  have ha0 : nA G 0 = G 2 := rfl
  have ha1 : nA G 1 = G 3 := rfl
  refine S_Mo_sure ?_
  try simp only [r0, r1_q, r2, r3, r4, r5_q, r7, r12, r13, r15, r17, r18, r19, r20, r21, r22]
  refine ⟨h.s.o, _, c_Mo_hasGame h, ?_⟩
  rintro _ _ ⟨rfl, rfl⟩
  try simp only [r0, r1_q, r2, r3, r4, r5_q, r7, r12, r13, r15, r17, r18, r19, r20, r21, r22]
  refine ⟨fun qc_1 => ?_, fun qc_1 => ?_⟩
  · replace qc_1 := zb_eq0.1 qc_1
    refine ⟨(zcs_f qc_1 rfl), MF.rf⟩
  · replace qc_1 := zb_ne0.1 qc_1
    have hto : 0 < G 0 := qc_1
    refine ⟨_, c_Mo_isPlayer, ?_⟩
    rintro _ _ ⟨rfl, rfl⟩
    try simp only [r0, r1_q, r2, r3, r4, r5_q, r7, r12, r13, r15, r17, r18, r19, r20, r21, r22]
    refine ⟨fun qc_2 => ?_, fun qc_2 => ?_⟩
    · replace qc_2 := zb_ne0.1 qc_2
      refine ⟨h.s.o, _, c_Mo_sureOf h qc_2 hto, ?_⟩
      rintro x8 m9_q ⟨i9_q, j9_q, F9⟩
      refine ⟨h.s.o, ?_⟩
      refine ⟨(zcs_t qc_1 (zcs_t qc_2 j9_q)), F9⟩
    · replace qc_2 := zb_eq0.1 (Classical.not_not.1 qc_2)
      refine ⟨(zcs_t qc_1 (zcs_f qc_2 rfl)), MF.rf⟩
