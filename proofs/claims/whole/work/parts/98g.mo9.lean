/-! THE MODEL, ninth: parts -/
def xiV (G : GR) (k : Int) : Int := if k < G 0 then k else k - G 0 + 5
def ixV (G : GR) (u : Int) : Int := if u < 5 then u else u - 5 + G 0
theorem xi_ix {G : GR} (h0 : 0 ≤ G 0 ∧ G 0 ≤ 5) (h1 : 0 ≤ G 1) {u : Int} (h : vtx G u) : xiV G (ixV G u) = u ∧ 0 ≤ ixV G u ∧ ixV G u < G 0 + G 1 := by
  unfold vtx at h
  unfold xiV ixV
  rcases h with h | h
  · rw [if_pos (show u < 5 by omega), if_pos h.2]; omega
  · rw [if_neg (show ¬ u < 5 by omega), if_neg (by omega)]; omega
theorem ix_xi {G : GR} (h0 : 0 ≤ G 0 ∧ G 0 ≤ 5) {k : Int} (h1 : 0 ≤ k) (h2 : k < G 0 + G 1) : ixV G (xiV G k) = k ∧ vtx G (xiV G k) := by
  unfold vtx xiV ixV
  rcases (show k < G 0 ∨ ¬ k < G 0 by omega) with q | q
  · rw [if_pos q, if_pos (by omega)]; omega
  · rw [if_neg q, if_neg (by omega)]; omega
theorem xi_mono {G : GR} (h0 : 0 ≤ G 0 ∧ G 0 ≤ 5) {a b : Int} (h : a ≤ b) : xiV G a ≤ xiV G b := by
  unfold xiV
  split <;> split <;> omega
theorem xi_inj {G : GR} (h0 : 0 ≤ G 0 ∧ G 0 ≤ 5) {a b : Int} (h : xiV G a = xiV G b) : a = b := by
  unfold xiV at h
  split at h <;> split at h <;> omega
def NM (G : GR) (P : Int → Int) : Int → Int := fun u => xiV G (P (ixV G u))
def PSub (G : GR) (P : Int → Int) : Prop := (∀ k, 0 ≤ k → k < G 0 + G 1 → 0 ≤ P k ∧ P k < G 0 + G 1) ∧ isSub G (NM G P)
theorem NM_x {G : GR} (h0 : 0 ≤ G 0 ∧ G 0 ≤ 5) {P : Int → Int} {x : Int} (h : 0 ≤ x ∧ x < G 0) : NM G P x = xiV G (P x) := by
  unfold NM ixV
  rw [if_pos (by omega)]
theorem NM_y {G : GR} {P : Int → Int} {y : Int} (h : 0 ≤ y) : NM G P (5 + y) = xiV G (P (G 0 + y)) := by
  unfold NM ixV
  rw [if_neg (by omega), show 5 + y - 5 + G 0 = G 0 + y by omega]
theorem PSub_0 {G : GR} (h0 : 0 ≤ G 0 ∧ G 0 ≤ 5) (h1 : 0 ≤ G 1) {P : Int → Int} (h : ∀ k, 0 ≤ k → k < G 0 + G 1 → P k = k) : PSub G P := by
  refine ⟨fun k k0_q k1_q => by rw [h k k0_q k1_q]; omega, fun u hu => ?_⟩
  have hx := xi_ix h0 h1 hu
  have e : NM G P u = u := by
    unfold NM
    rw [h _ hx.2.1 hx.2.2, hx.1]
  rw [e]
  exact ⟨hu, conn_r u, Int.le_refl _⟩
theorem PSub_e {G : GR} (h0 : 0 ≤ G 0 ∧ G 0 ≤ 5) (h1 : 0 ≤ G 1) {P : Int → Int} {x y l : Int} (he : wE G x y) (hl : l = zmin (P x) (P (G 0 + y))) (h : PSub G P) : PSub G (gup (gup P x l) (G 0 + y) l) := by
  have hx := he.1
  have hy := he.2.1
  have p1_q := h.1 x hx.1 (by omega)
  have p2_q := h.1 (G 0 + y) (by omega) (by omega)
  have l1 := zmin_l (P x) (P (G 0 + y))
  have l2 := zmin_r (P x) (P (G 0 + y))
  have l3 := zmin_c (P x) (P (G 0 + y))
  rw [← hl] at l1 l2 l3
  refine ⟨fun k k0_q k1_q => ?_, fun u hu => ?_⟩
  · rcases (show k = G 0 + y ∨ k ≠ G 0 + y by omega) with q | q
    · rw [q, gup_at]; omega
    · rw [gup_off q]
      rcases (show k = x ∨ k ≠ x by omega) with q2_q | q2_q
      · rw [q2_q, gup_at]; omega
      · rw [gup_off q2_q]; exact h.1 k k0_q k1_q
  · have sx := h.2 x (Or.inl hx)
    have sy := h.2 (5 + y) (Or.inr ⟨by omega, by omega⟩)
    rw [NM_x h0 hx] at sx
    rw [NM_y hy.1] at sy
    have hvl : vtx G (xiV G l) := (ix_xi h0 (by omega) (by omega)).2
    have cx : conn G x (xiV G l) := by
      rcases l3 with q | q
      · rw [q]; exact sx.2.1
      · rw [q]; exact conn_t (conn_e he) sy.2.1
    have cy : conn G (5 + y) (xiV G l) := conn_t (conn_s (conn_e he)) cx
    have mx : xiV G l ≤ x := Int.le_trans (xi_mono h0 l1) sx.2.2
    have my : xiV G l ≤ 5 + y := Int.le_trans (xi_mono h0 l2) sy.2.2
    rcases (show u = x ∨ u = 5 + y ∨ (u ≠ x ∧ u ≠ 5 + y) by omega) with q | q | q
    · rw [q, NM_x h0 hx, gup_off (by omega), gup_at]
      exact ⟨hvl, cx, mx⟩
    · rw [q, NM_y hy.1, gup_at]
      exact ⟨hvl, cy, my⟩
    · have hi_q := xi_ix h0 h1 hu
      have e : NM G (gup (gup P x l) (G 0 + y) l) u = NM G P u := by
        unfold NM
        have n1_q : ixV G u ≠ G 0 + y := fun z => q.2 (by
          have := hi_q.1
          rw [z] at this
          unfold xiV at this
          rw [if_neg (by omega)] at this
          omega)
        have n2_q : ixV G u ≠ x := fun z => q.1 (by
          have := hi_q.1
          rw [z] at this
          unfold xiV at this
          rw [if_pos hx.2] at this
          omega)
        rw [gup_off n1_q, gup_off n2_q]
      rw [e]
      exact h.2 u hu
theorem zsum_gup {f : Int → Int} {i v : Int} : ∀ n : Nat, 0 ≤ i → (i < n → zsum n (gup f i v) = zsum n f - f i + v) ∧ (n ≤ i → zsum n (gup f i v) = zsum n f) := by
  intro n h0
  induction n with
  | zero => exact ⟨fun h => by omega, fun _ => rfl⟩
  | succ n ih =>
    refine ⟨fun h => ?_, fun h => ?_⟩
    · simp only [zsum]
      rcases (show i = n ∨ i < n by omega) with q | q
      · rw [q, gup_at, ← q, ih.2 (by omega)]; omega
      · rw [ih.1 q, gup_off (by omega)]; omega
    · simp only [zsum]
      rw [ih.2 (by omega), gup_off (by omega)]
def PIv (G : GR) (m : ZM) (s : Int × ZM) : Prop := (s.1 = 0 ∨ s.1 = 1) ∧ (∀ e, e ≠ 89 → s.2 e = m e) ∧ PSub G (s.2 89) ∧ (s.1 = 0 → ∀ x y, wE G x y → s.2 89 x = s.2 89 (G 0 + y))
/-- how far a sweep is -/
def PSw (G : GR) (m mm : ZM) (a b w : Int) (m9_q : ZM) : Prop := (w = 0 ∨ w = 1) ∧ (∀ e, e ≠ 89 → m9_q e = m e) ∧ PSub G (m9_q 89) ∧ (w = 0 → m9_q 89 = mm 89 ∧ ∀ x y, wE G x y → (x < a ∨ x = a ∧ y < b) → m9_q 89 x = m9_q 89 (G 0 + y)) ∧ (w = 1 → zsum (G 0 + G 1).toNat (m9_q 89) < zsum (G 0 + G 1).toNat (mm 89))
theorem PSw_w {G : GR} {m mm : ZM} {a b a' b' w : Int} {m9_q : ZM} (h : PSw G m mm a b w m9_q) (e : ∀ x y, wE G x y → (x < a' ∨ x = a' ∧ y < b') → (x < a ∨ x = a ∧ y < b)) : PSw G m mm a' b' w m9_q := ⟨h.1, h.2.1, h.2.2.1, fun z => ⟨(h.2.2.2.1 z).1, fun x y hw hl => (h.2.2.2.1 z).2 x y hw (e x y hw hl)⟩, h.2.2.2.2⟩
theorem PSw_s {G : GR} {m mm : ZM} {a b w : Int} {m9_q : ZM} (h : PSw G m mm a b w m9_q) (e : ¬ wE G a b ∨ m9_q 89 a = m9_q 89 (G 0 + b)) : PSw G m mm a (b + 1) w m9_q := ⟨h.1, h.2.1, h.2.2.1, fun z => ⟨(h.2.2.2.1 z).1, fun x y hw hl => by
  rcases (show (x < a ∨ x = a ∧ y < b) ∨ (x = a ∧ y = b) by omega) with q | q
  · exact (h.2.2.2.1 z).2 x y hw q
  · rcases e with k | k
    · exact absurd (by rw [← q.1, ← q.2]; exact hw) k
    · rw [q.1, q.2]; exact k⟩, h.2.2.2.2⟩
theorem PSw_u {G : GR} (h0 : 0 ≤ G 0 ∧ G 0 ≤ 5) (h1 : 0 ≤ G 1) {m mm : ZM} {a b w : Int} {m9_q : ZM} (h : PSw G m mm a b w m9_q) (he : wE G a b) (hn : m9_q 89 a ≠ m9_q 89 (G 0 + b)) : PSw G m mm a (b + 1) 1 (zup (zup m9_q 89 a (zmin (m9_q 89 a) (m9_q 89 (G 0 + b)))) 89 (G 0 + b) (zmin (m9_q 89 a) (m9_q 89 (G 0 + b)))) := by
  have hx := he.1
  have hy := he.2.1
  have e89 : (zup (zup m9_q 89 a (zmin (m9_q 89 a) (m9_q 89 (G 0 + b)))) 89 (G 0 + b) (zmin (m9_q 89 a) (m9_q 89 (G 0 + b)))) 89 = gup (gup (m9_q 89) a (zmin (m9_q 89 a) (m9_q 89 (G 0 + b)))) (G 0 + b) (zmin (m9_q 89 a) (m9_q 89 (G 0 + b))) := by rw [zup_at, zup_at]
  refine ⟨Or.inr rfl, fun e he => by rw [zup_off he, zup_off he]; exact h.2.1 e he, by rw [e89]; exact PSub_e h0 h1 he rfl h.2.2.1, fun z => absurd z (by decide), fun _ => ?_⟩
  rw [e89]
  have s1_q := (zsum_gup (f := gup (m9_q 89) a (zmin (m9_q 89 a) (m9_q 89 (G 0 + b)))) (i := G 0 + b) (v := zmin (m9_q 89 a) (m9_q 89 (G 0 + b))) (G 0 + G 1).toNat (by omega)).1 (by omega)
  have s2_q := (zsum_gup (f := m9_q 89) (i := a) (v := zmin (m9_q 89 a) (m9_q 89 (G 0 + b))) (G 0 + G 1).toNat hx.1).1 (by omega)
  rw [gup_off (show G 0 + b ≠ a by omega)] at s1_q
  rw [s1_q, s2_q]
  have l1 := zmin_l (m9_q 89 a) (m9_q 89 (G 0 + b))
  have l2 := zmin_r (m9_q 89 a) (m9_q 89 (G 0 + b))
  have hle : zsum (G 0 + G 1).toNat (m9_q 89) ≤ zsum (G 0 + G 1).toNat (mm 89) := by
    rcases h.1 with q | q
    · rw [(h.2.2.2.1 q).1]; exact Int.le_refl _
    · exact Int.le_of_lt (h.2.2.2.2 q)
  omega
theorem c_Mo_laysParts {d : Nat} {kd : ZK} {m : ZM} {G : GR} (h : MG kd m G) : CtV (d + 3) M_Mo_laysParts [(2, 78)] kd m (fun m1_q => (∀ e, e ≠ 89 → m1_q e = m e) ∧ (∀ k, 0 ≤ k → k < G 0 + G 1 → 0 ≤ m1_q 89 k ∧ m1_q 89 k < G 0 + G 1) ∧ isLab G (NM G (m1_q 89))) := by
  have r0 := h.s.r0
  have r1_q := h.s.r1
  have r2 := h.s.r2
  have r3 := h.s.r3
  have r4 := h.s.r4
  have r5_q := h.s.r5
  have r7 := h.s.r7
  have r12 := h.s.r12
  have r13 := h.s.r13
  have r15 := h.s.r15
  have r17 := h.s.r17
  have r18 := h.s.r18
  have r19 := h.s.r19
  have r20 := h.s.r20
  have r21 := h.s.r21
  have r22 := h.s.r22
  have hok := h.ok.1
  have hq0 : nQ G 0 = G 0 := rfl
  have hq1 : nQ G 1 = G 1 := rfl
  have ha0 : nA G 0 = G 2 := rfl
  have ha1 : nA G 1 = G 3 := rfl
  have W := zwhile (fun s : Int × ZM => (2 * zsum (G 0 + G 1).toNat (s.2 89) + s.1).toNat) (fun s : Int × ZM => Ev (d + 3) M_Mo_laysParts 0 0 34 [(2, 78), zJ, (0, s.1), zJ, zJ, zJ, zJ] [] kd s.2 (zqV kd (fun m1_q => (∀ e, e ≠ 89 → m1_q e = m e) ∧ (∀ k, 0 ≤ k → k < G 0 + G 1 → 0 ≤ m1_q 89 k ∧ m1_q 89 k < G 0 + G 1) ∧ isLab G (NM G (m1_q 89))))) (PIv G m) (by
    intro s hIs IH
    obtain ⟨w0_q, mm⟩ := s
    simp only [PIv] at hIs
    try simp only [] at IH ⊢
    refine T_Mo_laysParts_34 ⟨fun qc_1 => ?_, fun qc_1 => ?_⟩
    · refine ⟨hIs.2.1, hIs.2.2.1.1, isLab_of hIs.2.2.1.2 (fun x y hw => ?_)⟩
      rw [NM_x hok.1 hw.1, NM_y hw.2.1.1, hIs.2.2.2 qc_1 x y hw]
    · have hw1 : w0_q = 1 := by omega
      subst hw1
      have qL0 := zfor2 (G 0) (fun (x : Int) (m9_q : ZM) (w : Int) => Ev (d + 3) M_Mo_laysParts 0 0 42 [(2, 78), zJ, (0, w), (0, x), zJ, zJ, zJ] [] kd m9_q (zqV kd (fun m1_q => (∀ e, e ≠ 89 → m1_q e = m e) ∧ (∀ k, 0 ≤ k → k < G 0 + G 1 → 0 ≤ m1_q 89 k ∧ m1_q 89 k < G 0 + G 1) ∧ isLab G (NM G (m1_q 89))))) (fun (x : Int) (m9_q : ZM) (w : Int) => 0 ≤ x ∧ PSw G m mm x 0 w m9_q) (by
        intro x m9_q w hb_q hI0 qKL0
        obtain ⟨hx0, hS_q⟩ := hI0
        have hm_q : MG kd m9_q G := h.mf (MF.of (fun c hc_q => hS_q.2.1 c (by omega)))
        have qL1 := zfor2 (G 1) (fun (y : Int) (m9_q : ZM) (w : Int) => Ev (d + 3) M_Mo_laysParts 0 0 54 [(2, 78), zJ, (0, w), (0, x), (0, y), zJ, zJ] [] kd m9_q (zqV kd (fun m1_q => (∀ e, e ≠ 89 → m1_q e = m e) ∧ (∀ k, 0 ≤ k → k < G 0 + G 1 → 0 ≤ m1_q 89 k ∧ m1_q 89 k < G 0 + G 1) ∧ isLab G (NM G (m1_q 89))))) (fun (y : Int) (m9_q : ZM) (w : Int) => (0 ≤ y ∧ x < G 0) ∧ PSw G m mm x y w m9_q) (by
          intro y m9_q w hb_q hI1 qKL1
          obtain ⟨⟨hy0, hxl⟩, hS_q⟩ := hI1
          have hm_q : MG kd m9_q G := h.mf (MF.of (fun c hc_q => hS_q.2.1 c (by omega)))
          have z17 : ∀ i v, (zup m9_q 89 i v) 78 17 = 89 := fun i v => by rw [zup_off (by decide)]; exact hm_q.s.r17
          refine T_Mo_laysParts_54 ?_
          try simp only [hm_q.s.r17]
          refine ⟨hm_q.s.o, _, c_Mo_questions hm_q (Or.inr rfl), ?_⟩
          rintro _ _ ⟨rfl, rfl⟩
          try simp only [hm_q.s.r17]
          refine ⟨fun qc_1 => ?_, fun qc_1 => ?_⟩
          · skip
            rw [iw_s (x := x + 1) (by omega) (by omega)]
            exact qKL0 m9_q w (by omega) ⟨by omega, PSw_w hS_q (fun x' y' hw hl => by have := hw.2.1; omega)⟩
          · skip
            refine ⟨hm_q.s.o, _, c_Mo_questions hm_q (Or.inl rfl), ?_⟩
            rintro _ _ ⟨rfl, rfl⟩
            try simp only [hm_q.s.r17]
            refine ⟨hm_q.s.o, _, c_Mo_weightOf hm_q (by omega) (by omega), ?_⟩
            rintro _ _ ⟨rfl, rfl⟩
            try simp only [hm_q.s.r17]
            have hgw := h.ok.gW x y
            rw [hq0, iw_s (x := G 0 + y) (by omega) (by omega)]
            try simp only [z17]
            refine ⟨fun qc_2 => ?_, fun qc_2 => ?_⟩
            · skip
              rw [iw_s (x := y + 1) (by omega) (by omega)]
              first | exact qKL1 m9_q w (by omega) ⟨⟨by omega, hxl⟩, PSw_s hS_q (Or.inl (fun z => absurd z.2.2 (by omega)))⟩ | exact qKL1 m9_q w (by omega) ⟨⟨by omega, hxl⟩, PSw_s hS_q (Or.inr (Classical.not_not.1 qc_3))⟩ | exact qKL1 _ 1 (by omega) ⟨⟨by omega, hxl⟩, PSw_u hok.1 hok.2.1.1 hS_q ⟨⟨by omega, by omega⟩, ⟨by omega, by omega⟩, by omega⟩ qc_3⟩
            · skip
              refine ⟨hm_q.s.o, ⟨10, hm_q.s.k89, by omega, by omega⟩, hm_q.s.o, ⟨10, hm_q.s.k89, by omega, by omega⟩, ?_⟩
              refine ⟨fun qc_3 => ?_, fun qc_3 => ?_⟩
              · skip
                refine ⟨hm_q.s.o, ⟨10, hm_q.s.k89, by omega, by omega⟩, hm_q.s.o, ⟨10, hm_q.s.k89, by omega, by omega⟩, ?_⟩
                refine ⟨hm_q.s.o, ⟨10, hm_q.s.k89, by omega, by omega⟩, hm_q.s.o, ⟨10, hm_q.s.k89, by omega, by omega⟩, ?_⟩
                rw [iw_s (x := y + 1) (by omega) (by omega)]
                first | exact qKL1 m9_q w (by omega) ⟨⟨by omega, hxl⟩, PSw_s hS_q (Or.inl (fun z => absurd z.2.2 (by omega)))⟩ | exact qKL1 m9_q w (by omega) ⟨⟨by omega, hxl⟩, PSw_s hS_q (Or.inr (Classical.not_not.1 qc_3))⟩ | exact qKL1 _ 1 (by omega) ⟨⟨by omega, hxl⟩, PSw_u hok.1 hok.2.1.1 hS_q ⟨⟨by omega, by omega⟩, ⟨by omega, by omega⟩, by omega⟩ qc_3⟩
              · skip
                rw [iw_s (x := y + 1) (by omega) (by omega)]
                first | exact qKL1 m9_q w (by omega) ⟨⟨by omega, hxl⟩, PSw_s hS_q (Or.inl (fun z => absurd z.2.2 (by omega)))⟩ | exact qKL1 m9_q w (by omega) ⟨⟨by omega, hxl⟩, PSw_s hS_q (Or.inr (Classical.not_not.1 qc_3))⟩ | exact qKL1 _ 1 (by omega) ⟨⟨by omega, hxl⟩, PSw_u hok.1 hok.2.1.1 hS_q ⟨⟨by omega, by omega⟩, ⟨by omega, by omega⟩, by omega⟩ qc_3⟩)
        refine T_Mo_laysParts_42 ?_
        refine ⟨hm_q.s.o, _, c_Mo_questions hm_q (Or.inl rfl), ?_⟩
        rintro _ _ ⟨rfl, rfl⟩
        refine ⟨fun qc_1 => ?_, fun qc_1 => ?_⟩
        · skip
          refine IH (w, m9_q) ⟨hS_q.1, hS_q.2.1, hS_q.2.2.1, fun z x' y' hw => (hS_q.2.2.2.1 z).2 x' y' hw (by have := hw.1; omega)⟩ ?_
          have hn1 := zsum_nn (f := mm 89) (G 0 + G 1).toNat (fun i i0_q i1_q => (hIs.2.2.1.1 i i0_q (by omega)).1)
          have hn2 := zsum_nn (f := m9_q 89) (G 0 + G 1).toNat (fun i i0_q i1_q => (hS_q.2.2.1.1 i i0_q (by omega)).1)
          try simp only []
          rcases hS_q.1 with q | q
          · rw [(hS_q.2.2.2.1 q).1]; omega
          · have := hS_q.2.2.2.2 q; omega
        · skip
          exact qL1 0 m9_q w (by omega) ⟨⟨by decide, by omega⟩, hS_q⟩)
      exact qL0 0 mm 0 hok.1.1 ⟨by decide, Or.inl rfl, hIs.2.1, hIs.2.2.1, fun _ => ⟨rfl, fun x y hw hl => by have := hw.1; have := hw.2.1; omega⟩, fun z => absurd z (by decide)⟩)
  have qL0 := zfor1 (G 0 + G 1) (fun (k : Int) (mm : ZM) => Ev (d + 3) M_Mo_laysParts 0 0 14 [(2, 78), (0, (G 0 + G 1)), (0, k), zJ, zJ, zJ, zJ] [] kd mm (zqV kd (fun m1_q => (∀ e, e ≠ 89 → m1_q e = m e) ∧ (∀ k, 0 ≤ k → k < G 0 + G 1 → 0 ≤ m1_q 89 k ∧ m1_q 89 k < G 0 + G 1) ∧ isLab G (NM G (m1_q 89))))) (fun (k : Int) (mm : ZM) => 0 ≤ k ∧ (∀ e, e ≠ 89 → mm e = m e) ∧ ∀ j, 0 ≤ j → j < k → mm 89 j = j) (by
    intro k mm hb_q hI0 qKL0
    obtain ⟨hk0, hF, hX⟩ := hI0
    have hm_q : MG kd mm G := h.mf (MF.of (fun c hc_q => hF c (by omega)))
    refine T_Mo_laysParts_14 ?_
    try simp only [hm_q.s.r17]
    refine ⟨fun qc_1 => ?_, fun qc_1 => ?_⟩
    · skip
      exact W (1, mm) ⟨Or.inr rfl, hF, PSub_0 hok.1 hok.2.1.1 (fun j j0 j1 => hX j j0 (by omega)), fun z => absurd (show (1 : Int) = 0 from z) (by decide)⟩
    · skip
      refine ⟨hm_q.s.o, ⟨10, hm_q.s.k89, by omega, by omega⟩, ?_⟩
      rw [iw_s (x := k + 1) (by omega) (by omega)]
      refine qKL0 _ (by omega) ⟨by omega, fun e he => by rw [zup_off he]; exact hF e he, fun j j0 j1 => ?_⟩
      rw [zup_at]
      rcases (show j = k ∨ j < k by omega) with q | q
      · rw [q, gup_at]
      · rw [gup_off (by omega)]; exact hX j j0 q)
  refine S_Mo_laysParts ?_
  refine ⟨h.s.o, _, c_Mo_questions h (Or.inl rfl), ?_⟩
  rintro _ _ ⟨rfl, rfl⟩
  refine ⟨h.s.o, _, c_Mo_questions h (Or.inr rfl), ?_⟩
  rintro _ _ ⟨rfl, rfl⟩
  rw [hq0, hq1, iw_s (x := G 0 + G 1) (by omega) (by omega)]
  exact qL0 0 m (by omega) ⟨by decide, fun _ _ => rfl, fun j j0 j1 => by omega⟩
/-- how many have the label k -/
noncomputable def nLb (G : GR) (p : Int → Int) (k : Int) : Int := zsum (G 0 + G 1).toNat fun o => zb (p o = k)
theorem lab_lab {G : GR} {M : Int → Int} (h : isLab G M) {u : Int} (hu : vtx G u) : M (M u) = M u := by
  have a := h u hu
  have b := h (M u) a.1
  have qc_1 := b.2.2 (M u) a.1 (conn_r _)
  have qc_2 := a.2.2 (M (M u)) b.1 (conn_t a.2.1 b.2.1)
  omega
theorem nLb_r {G : GR} (h0 : 0 ≤ G 0 ∧ G 0 ≤ 5) {p : Int → Int} (hp : ∀ k, 0 ≤ k → k < G 0 + G 1 → 0 ≤ p k ∧ p k < G 0 + G 1) (h : isLab G (NM G p)) {k : Int} (k0_q : 0 ≤ k) (k1_q : k < G 0 + G 1) : 0 < nLb G p k ↔ p k = k := by
  constructor
  · intro hn
    obtain ⟨o, o0_q, o1, e⟩ := zsum_nz (P := fun o => p o = k) (G 0 + G 1).toNat (show nLb G p k ≠ 0 by omega)
    have ho := ix_xi h0 o0_q (show o < G 0 + G 1 by omega)
    have hl := lab_lab h ho.2
    have e1_q : NM G p (xiV G o) = xiV G k := by
      unfold NM
      rw [ho.1, e]
    rw [e1_q] at hl
    have hk := ix_xi h0 k0_q k1_q
    unfold NM at hl
    rw [hk.1] at hl
    exact xi_inj h0 hl
  · intro e
    refine Classical.byContradiction fun hn => ?_
    have h1 := zsum_le (C := 1) (f := fun o => zb (p o = k)) (by decide) (fun _ => zb_01) (G 0 + G 1).toNat
    have hz : zsum (G 0 + G 1).toNat (fun o => zb (p o = k)) = 0 := by unfold nLb at hn; omega
    have hm_q := zsum_mono (f := fun o => if o = k then zb (p o = k) else 0) (g := fun o => zb (p o = k)) (G 0 + G 1).toNat (fun i i0_q i1_q => by
      have := zb_01 (P := p i = k)
      split <;> omega)
    have hs := (zsum_gup (f := fun _ => 0) (i := k) (v := 1) (G 0 + G 1).toNat k0_q).1 (by omega)
    rw [zsum_zero (f := fun _ => (0 : Int)) _ (fun _ _ _ => rfl)] at hs
    have hc_q : zsum (G 0 + G 1).toNat (fun o => if o = k then zb (p o = k) else 0) = zsum (G 0 + G 1).toNat (gup (fun _ => 0) k 1) := zsum_congr _ (fun i i0_q i1_q => by
      unfold gup
      split
      · rename_i q; rw [q, zb_t e]
      · rfl)
    omega
theorem nPts_N {G : GR} (h0 : 0 ≤ G 0 ∧ G 0 ≤ 5) (h1 : 0 ≤ G 1) {p : Int → Int} (hp : ∀ k, 0 ≤ k → k < G 0 + G 1 → 0 ≤ p k ∧ p k < G 0 + G 1) (h : isLab G (NM G p)) : zsum (G 0 + G 1).toNat (fun k => zb (0 < nLb G p k)) = nPts G (NM G p) := by
  rw [show (G 0 + G 1).toNat = (G 0).toNat + (G 1).toNat by omega, zsum_cat]
  unfold nPts
  have e1_q : zsum (G 0).toNat (fun k => zb (0 < nLb G p k)) = zsum (G 0).toNat (fun x => zb (NM G p x = x)) := zsum_congr _ (fun x x0_q x1_q => zb_congr (by
    rw [nLb_r h0 hp h x0_q (by omega), NM_x h0 ⟨x0_q, by omega⟩]
    constructor
    · intro e; rw [e]; unfold xiV; rw [if_pos (by omega)]
    · intro e; exact xi_inj h0 (by rw [e]; unfold xiV; rw [if_pos (by omega)])))
  have e2_q : zsum (G 1).toNat (fun i => zb (0 < nLb G p (((G 0).toNat : Int) + i))) = zsum (G 1).toNat (fun y => zb (NM G p (5 + y) = 5 + y)) := zsum_congr _ (fun y y0 y1 => zb_congr (by
    rw [show ((G 0).toNat : Int) + y = G 0 + y by omega, nLb_r h0 hp h (by omega) (by omega), NM_y y0]
    constructor
    · intro e; rw [e]; unfold xiV; rw [if_neg (by omega)]; omega
    · intro e; exact xi_inj h0 (by rw [e]; unfold xiV; rw [if_neg (by omega)]; omega)))
  rw [e1_q, e2_q]
theorem szP_N {G : GR} (h0 : 0 ≤ G 0 ∧ G 0 ≤ 5) (h1 : 0 ≤ G 1) {p : Int → Int} {k : Int} : szP G (NM G p) (xiV G k) = nLb G p k := by
  unfold szP nLb
  rw [show (G 0 + G 1).toNat = (G 0).toNat + (G 1).toNat by omega, zsum_cat]
  have e1_q : zsum (G 0).toNat (fun x => zb (NM G p x = xiV G k)) = zsum (G 0).toNat (fun o => zb (p o = k)) := zsum_congr _ (fun x x0_q x1_q => zb_congr (by
    rw [NM_x h0 ⟨x0_q, by omega⟩]
    exact ⟨fun e => xi_inj h0 e, fun e => by rw [e]⟩))
  have e2_q : zsum (G 1).toNat (fun y => zb (NM G p (5 + y) = xiV G k)) = zsum (G 1).toNat (fun i => zb (p (((G 0).toNat : Int) + i) = k)) := zsum_congr _ (fun y y0 y1 => zb_congr (by
    rw [show ((G 0).toNat : Int) + y = G 0 + y by omega, NM_y y0]
    exact ⟨fun e => xi_inj h0 e, fun e => by rw [e]⟩))
  rw [e1_q, e2_q]
theorem isGr_N {G : GR} (h0 : 0 ≤ G 0 ∧ G 0 ≤ 5) (ht : 0 < G 0) (h1 : 0 ≤ G 1) {p : Int → Int} (h : isLab G (NM G p)) : isGr G (NM G p) (hi0 (nLb G p) (G 0 + G 1).toNat) := by
  have hn : ∀ k, 0 ≤ nLb G p k := fun k => (zsum_le (C := 1) (f := fun o => zb (p o = k)) (by decide) (fun _ => zb_01) (G 0 + G 1).toNat).1
  have e : (G 0 + G 1).toNat = (G 0 + G 1 - 1).toNat + 1 := by omega
  rw [e, hi0_zhi _ (fun i _ _ => hn i)]
  constructor
  · intro kk
    rcases Classical.em (vtx G kk) with hv | hv
    · have hx := xi_ix h0 h1 hv
      rw [← hx.1, szP_N h0 h1]
      exact zhi_le (h := nLb G p) _ _ hx.2.1 (by omega)
    · have hz : szP G (NM G p) kk = 0 := by
        unfold szP
        rw [zsum_zero (f := fun x => zb (NM G p x = kk)) _ (fun x x0_q x1_q => zb_f (fun q => hv (by rw [← q]; exact (h x (Or.inl ⟨x0_q, by omega⟩)).1))), zsum_zero (f := fun y => zb (NM G p (5 + y) = kk)) _ (fun y y0 y1 => zb_f (fun q => hv (by rw [← q]; exact (h (5 + y) (Or.inr ⟨by omega, by omega⟩)).1)))]
        rfl
      rw [hz]
      exact Int.le_trans (hn 0) (zhi_le (h := nLb G p) _ 0 (by decide) (by omega))
  · obtain ⟨j, j0, j1, e2_q⟩ := zhi_at (h := nLb G p) (G 0 + G 1 - 1).toNat
    exact ⟨xiV G j, by rw [szP_N h0 h1, e2_q]⟩
theorem c_Mo_parts {d : Nat} {kd : ZK} {m : ZM} {G : GR} {w : Int} (h : MG kd m G) : CtI (d + 7) M_Mo_parts [(2, 78), (0, w)] kd m (fun v m1_q => pParts G w v ∧ MF m m1_q) := by
  have r0 := h.s.r0
  have r1_q := h.s.r1
  have r2 := h.s.r2
  have r3 := h.s.r3
  have r4 := h.s.r4
  have r5_q := h.s.r5
  have r7 := h.s.r7
  have r12 := h.s.r12
  have r13 := h.s.r13
  have r15 := h.s.r15
  have r17 := h.s.r17
  have r18 := h.s.r18
  have r19 := h.s.r19
  have r20 := h.s.r20
  have r21 := h.s.r21
  have r22 := h.s.r22
  have hok := h.ok.1
  have hq0 : nQ G 0 = G 0 := rfl
  have hq1 : nQ G 1 = G 1 := rfl
  have ha0 : nA G 0 = G 2 := rfl
  have ha1 : nA G 1 = G 3 := rfl
  have key : told G → 0 ≤ w → w ≤ 2 → w ≠ 2 → ∀ mm, (∀ e, e ≠ 89 → mm e = m e) → (∀ k, 0 ≤ k → k < G 0 + G 1 → 0 ≤ mm 89 k ∧ mm 89 k < G 0 + G 1) → isLab G (NM G (mm 89)) → Ev (d + 7) M_Mo_parts 0 0 70 [(2, 78), (0, w), (0, G 0 + G 1), (0, 0), (0, 0), (0, 0), zJ, zJ] [] kd mm (zqI kd (fun v m1_q => pParts G w v ∧ MF m m1_q)) := by
    intro ht hw0 hw2 hwn mm hF hP hL
    have hto : 0 < G 0 := ht
    have hm_q : MG kd mm G := h.mf (MF.of (fun c hc_q => hF c (by omega)))
    have hMF : MF m mm := MF.of (fun c hc_q => hF c (by omega))
    have hnb := fun k => zsum_le (C := 1) (f := fun o => zb (mm 89 o = k)) (by decide) (fun _ => zb_01) (G 0 + G 1).toNat
    have qL0 := zfor2 (G 0 + G 1) (fun (k : Int) (a : Int) (g : Int) => Ev (d + 7) M_Mo_parts 0 0 70 [(2, 78), (0, w), (0, (G 0 + G 1)), (0, a), (0, g), (0, k), zJ, zJ] [] kd mm (zqI kd (fun v m1_q => pParts G w v ∧ MF m m1_q))) (fun (k : Int) (a : Int) (g : Int) => 0 ≤ k ∧ (a = zsum k.toNat (fun k => zb (0 < nLb G (mm 89) k)) ∧ 0 ≤ a ∧ a ≤ k) ∧ g = hi0 (nLb G (mm 89)) k.toNat) (by
      intro k a g hb_q hI0 qKL0
      obtain ⟨hk0, ⟨ha_, a0_q, a1_q⟩, hg⟩ := hI0
      have qL1 := zfor1 (G 0 + G 1) (fun (o : Int) (s : Int) => Ev (d + 7) M_Mo_parts 0 0 82 [(2, 78), (0, w), (0, (G 0 + G 1)), (0, a), (0, g), (0, k), (0, s), (0, o)] [] kd mm (zqI kd (fun v m1_q => pParts G w v ∧ MF m m1_q))) (fun (o : Int) (s : Int) => (0 ≤ o ∧ k < G 0 + G 1) ∧ s = zsum o.toNat (fun o => zb (mm 89 o = k)) ∧ 0 ≤ s ∧ s ≤ o) (by
        intro o s hb_q hI1 qKL1
        obtain ⟨⟨ho0, hkl⟩, hs, s0_q, s1_q⟩ := hI1
        have x1_q := zsum_1 ho0 (fun o => zb (mm 89 o = k))
        try simp only [] at x1_q
        have xk := zsum_1 hk0 (fun k => zb (0 < nLb G (mm 89) k))
        try simp only [] at xk
        refine T_Mo_parts_82 ?_
        try simp only [hm_q.s.r17]
        refine ⟨fun qc_1 => ?_, fun qc_1 => ?_⟩
        · skip
          refine ⟨fun qc_2 => ?_, fun qc_2 => ?_⟩
          · skip
            have hsn : s = nLb G (mm 89) k := by rw [hs, show o = G 0 + G 1 by omega]; rfl
            refine T_Mo_parts_130 ⟨_, c_Mo_truth, ?_⟩
            rintro _ _ ⟨rfl, rfl⟩
            rw [if_pos rfl, iw_s (x := a + 0) (by omega) (by omega), iw_s (x := k + 1) (by omega) (by omega)]
            exact qKL0 _ _ (by omega) ⟨by omega, ⟨by rw [xk, ← ha_, zb_f (show ¬ 0 < nLb G (mm 89) k by omega)], by omega, by omega⟩, by rw [hi0_1 hk0, ← hg, hsn]⟩
          · skip
            have hsn : s = nLb G (mm 89) k := by rw [hs, show o = G 0 + G 1 by omega]; rfl
            refine T_Mo_parts_130 ⟨_, c_Mo_truth, ?_⟩
            rintro _ _ ⟨rfl, rfl⟩
            rw [if_neg (by decide), iw_s (x := a + 1) (by omega) (by omega), iw_s (x := k + 1) (by omega) (by omega)]
            exact qKL0 _ _ (by omega) ⟨by omega, ⟨by rw [xk, ← ha_, zb_t (show 0 < nLb G (mm 89) k by omega)], by omega, by omega⟩, by rw [hi0_1 hk0, ← hg, hsn]⟩
        · skip
          refine ⟨hm_q.s.o, ⟨10, hm_q.s.k89, by omega, by omega⟩, ?_⟩
          refine ⟨fun qc_3 => ?_, fun qc_3 => ?_⟩
          · skip
            refine ⟨_, c_Mo_truth, ?_⟩
            rintro _ _ ⟨rfl, rfl⟩
            try simp only [hm_q.s.r17]
            rw [iw_s (x := o + 1) (by omega) (by omega)]
            first | (rw [if_pos trivial, iw_s (x := s + 0) (by omega) (by omega)]; rw [zb_f qc_3, Int.add_zero] at x1_q; exact qKL1 _ (by omega) ⟨⟨by omega, hkl⟩, by rw [x1_q, ← hs, Int.add_zero], by omega, by omega⟩) | (rw [if_neg (by decide), iw_s (x := s + 1) (by omega) (by omega)]; rw [zb_t (Classical.not_not.1 qc_3)] at x1_q; exact qKL1 _ (by omega) ⟨⟨by omega, hkl⟩, by rw [x1_q, ← hs], by omega, by omega⟩)
          · skip
            refine ⟨_, c_Mo_truth, ?_⟩
            rintro _ _ ⟨rfl, rfl⟩
            try simp only [hm_q.s.r17]
            rw [iw_s (x := o + 1) (by omega) (by omega)]
            first | (rw [if_pos trivial, iw_s (x := s + 0) (by omega) (by omega)]; rw [zb_f qc_3, Int.add_zero] at x1_q; exact qKL1 _ (by omega) ⟨⟨by omega, hkl⟩, by rw [x1_q, ← hs, Int.add_zero], by omega, by omega⟩) | (rw [if_neg (by decide), iw_s (x := s + 1) (by omega) (by omega)]; rw [zb_t (Classical.not_not.1 qc_3)] at x1_q; exact qKL1 _ (by omega) ⟨⟨by omega, hkl⟩, by rw [x1_q, ← hs], by omega, by omega⟩))
      refine T_Mo_parts_70 ?_
      refine ⟨fun qc_1 => ?_, fun qc_1 => ?_⟩
      · skip
        refine ⟨fun qc_2 => ?_, fun qc_2 => ?_⟩
        · skip
          refine ⟨zcs_t ht ⟨fun e => ?_, fun e => ?_, fun e => ?_, fun e => ?_⟩, hMF⟩
          · exact absurd e (by omega)
          · first | exact absurd e (by omega) | (exact ⟨_, hL, by rw [ha_, show k = G 0 + G 1 by omega]; exact nPts_N hok.1 hok.2.1.1 hP hL⟩)
          · first | exact absurd e (by omega) | (exact ⟨_, hL, by rw [hg, show k = G 0 + G 1 by omega]; exact isGr_N hok.1 hto hok.2.1.1 hL⟩)
          · exact absurd e (by omega)
        · skip
          refine ⟨zcs_t ht ⟨fun e => ?_, fun e => ?_, fun e => ?_, fun e => ?_⟩, hMF⟩
          · exact absurd e (by omega)
          · first | exact absurd e (by omega) | (exact ⟨_, hL, by rw [ha_, show k = G 0 + G 1 by omega]; exact nPts_N hok.1 hok.2.1.1 hP hL⟩)
          · first | exact absurd e (by omega) | (exact ⟨_, hL, by rw [hg, show k = G 0 + G 1 by omega]; exact isGr_N hok.1 hto hok.2.1.1 hL⟩)
          · exact absurd e (by omega)
      · skip
        exact qL1 0 0 (by omega) ⟨⟨by decide, by omega⟩, rfl, by decide, by decide⟩)
    exact qL0 0 0 0 (by omega) ⟨by decide, ⟨rfl, by decide, by decide⟩, rfl⟩
  refine S_Mo_parts ?_
  try simp only [r0, r1_q, r2, r3, r4, r5_q, r7, r12, r13, r15, r17, r18, r19, r20, r21, r22]
  refine ⟨h.s.o, _, c_Mo_hasGame h, ?_⟩
  rintro _ _ ⟨rfl, rfl⟩
  try simp only [r0, r1_q, r2, r3, r4, r5_q, r7, r12, r13, r15, r17, r18, r19, r20, r21, r22]
  refine ⟨fun qc_1 => ?_, fun qc_1 => ?_⟩
  · replace qc_1 := zb_eq0.1 qc_1
    exact ⟨zcs_f qc_1 rfl, MF.rf⟩
  · replace qc_1 := zb_ne0.1 qc_1
    have hto : 0 < G 0 := qc_1
    refine ⟨_, c_Mo_in, ?_⟩
    rintro _ _ ⟨rfl, rfl⟩
    try simp only [r0, r1_q, r2, r3, r4, r5_q, r7, r12, r13, r15, r17, r18, r19, r20, r21, r22]
    refine ⟨fun qc_2 => ?_, fun qc_2 => ?_⟩
    · replace qc_2 := zb_ne0.1 qc_2
      refine ⟨fun qc_3 => ?_, fun qc_3 => ?_⟩
      · skip
        refine ⟨h.s.o, _, c_Mo_laysParts h, ?_⟩
        rintro m9_q ⟨f9_q, p9_q, l9⟩
        have F9 : MF m m9_q := MF.of (fun c hc_q => f9_q c (by omega))
        have hm9 : MG kd m9_q G := h.mf F9
        refine ⟨h.s.o, _, c_Mo_questions hm9 (Or.inl rfl), ?_⟩
        rintro _ _ ⟨rfl, rfl⟩
        try simp only [r0, r1_q, r2, r3, r4, r5_q, r7, r12, r13, r15, r17, r18, r19, r20, r21, r22]
        refine ⟨h.s.o, _, c_Mo_questions hm9 (Or.inr rfl), ?_⟩
        rintro _ _ ⟨rfl, rfl⟩
        try simp only [r0, r1_q, r2, r3, r4, r5_q, r7, r12, r13, r15, r17, r18, r19, r20, r21, r22]
        rw [hq0, hq1, iw_s (x := G 0 + G 1) (by omega) (by omega)]
        exact key qc_1 qc_2.1 qc_2.2 qc_3 m9_q f9_q p9_q l9
      · skip
        refine ⟨h.s.o, _, c_Mo_mostWorth h hto, ?_⟩
        rintro x17 m18 ⟨i18, f18⟩
        have F18 : MF m m18 := MF.of (fun c hc_q => f18 c (by omega) (by omega))
        have hm18 : MG kd m18 G := h.mf F18
        refine ⟨h.s.o, _, c_Mo_allWeights hm18, ?_⟩
        rintro _ _ ⟨rfl, rfl⟩
        try simp only [r0, r1_q, r2, r3, r4, r5_q, r7, r12, r13, r15, r17, r18, r19, r20, r21, r22]
        refine ⟨fun qc_4 => ?_, fun qc_4 => ?_⟩
        · skip
          refine ⟨_, c_Mo_truth, ?_⟩
          rintro _ _ ⟨rfl, rfl⟩
          try simp only [r0, r1_q, r2, r3, r4, r5_q, r7, r12, r13, r15, r17, r18, r19, r20, r21, r22]
          refine ⟨zcs_t qc_1 ⟨fun e => absurd e (by omega), fun e => absurd e (by omega), fun e => absurd e (by omega), fun _ => ⟨_, i18, ?_⟩⟩, F18⟩
          first | exact (zbF qc_4) | exact (zbT (Classical.not_not.1 qc_4))
        · skip
          refine ⟨_, c_Mo_truth, ?_⟩
          rintro _ _ ⟨rfl, rfl⟩
          try simp only [r0, r1_q, r2, r3, r4, r5_q, r7, r12, r13, r15, r17, r18, r19, r20, r21, r22]
          refine ⟨zcs_t qc_1 ⟨fun e => absurd e (by omega), fun e => absurd e (by omega), fun e => absurd e (by omega), fun _ => ⟨_, i18, ?_⟩⟩, F18⟩
          first | exact (zbF qc_4) | exact (zbT (Classical.not_not.1 qc_4))
    · replace qc_2 := zb_eq0.1 (Classical.not_not.1 qc_2)
      exact ⟨zcs_t qc_1 ⟨fun _ => rfl, fun e => absurd e (by omega), fun e => absurd e (by omega), fun e => absurd e (by omega)⟩, MF.rf⟩
