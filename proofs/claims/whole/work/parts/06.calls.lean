/-! NEW CELLS, AND CALLS -/
theorem zgood {ws : List Cond} (h : ∀ w ∈ ws, w ∈ zWs) : GoodIn zWs ws := fun w hw => ⟨h w hw, good_of_word (List.mem_filter.mp (h w hw)).2⟩
theorem zok_mono {kd kd' : ZK} {v : ZV} (h : kd.length ≤ kd'.length) (hv : zok kd v) : zok kd' v := ⟨hv.1, hv.2.1, fun q => ⟨(hv.2.2 q).1, by have := (hv.2.2 q).2; omega⟩⟩
theorem zc_ext {E : ZE} {kd kd' : ZK} {ad ad' : Nat → Nat} {ca ca' : Nat → ClassId} {v : ZV} (h : zext kd ad ca kd' ad' ca') (hv : zok kd v) : zc E ad' v = zc E ad v := by
  obtain ⟨t, x⟩ := v
  match t with
  | 0 => rfl
  | 1 => rfl
  | 2 =>
    have := (hv.2.2 rfl).2
    simp only [zc, zrf]
    split
    · rfl
    · rw [(h.2 x.toNat (by dsimp only at this; omega)).1]
  | 3 => rfl
  | 4 => rfl
  | 5 => rfl
  | 6 => rfl
  | t + 7 => rfl
theorem zst_ext {E : ZE} {kd kd' : ZK} {ad ad' : Nat → Nat} {ca ca' : Nat → ClassId} (h : zext kd ad ca kd' ad' ca') : ∀ {st : List ZV}, (∀ v ∈ st, zok kd v) → zst E ad' st = zst E ad st := by
  intro st
  induction st with
  | nil => intro _; rfl
  | cons v st ih =>
    intro hs
    show zc E ad' v :: zst E ad' st = zc E ad v :: zst E ad st
    rw [zc_ext h (zoks_head hs), ih (zoks_tail hs)]
theorem zloc_ext {E : ZE} {kd kd' : ZK} {ad ad' : Nat → Nat} {ca ca' : Nat → ClassId} {lsr : Array Slot} {n : Nat} {ls : List ZV} (h : zext kd ad ca kd' ad' ca') (hl : ∀ v ∈ ls, zok kd v) (hL : zloc E ad lsr n ls) : zloc E ad' lsr n ls :=
  ⟨hL.1, hL.2.1, fun i v hi h9 => by rw [zc_ext h (zok_at hl hi)]; exact hL.2.2 i v hi h9⟩
theorem zext.le {kd kd' : ZK} {ad ad' : Nat → Nat} {ca ca' : Nat → ClassId} (h : zext kd ad ca kd' ad' ca') : kd.length ≤ kd'.length := by
  obtain ⟨⟨t, e⟩, -⟩ := h
  rw [e, List.length_append]; omega
theorem zext.trans {kd kd1 kd2 : ZK} {ad ad1 ad2 : Nat → Nat} {ca ca1 ca2 : Nat → ClassId} (h : zext kd ad ca kd1 ad1 ca1) (h2 : zext kd1 ad1 ca1 kd2 ad2 ca2) : zext kd ad ca kd2 ad2 ca2 := by
  have hl := h.le
  obtain ⟨⟨t, e⟩, g⟩ := h
  obtain ⟨⟨t2, e2⟩, g2⟩ := h2
  refine ⟨⟨t ++ t2, by rw [e2, e, List.append_assoc]⟩, fun a ha => ?_⟩
  obtain ⟨x1, x2⟩ := g a ha
  obtain ⟨y1, y2⟩ := g2 a (by omega)
  exact ⟨y1.trans x1, y2.trans x2⟩
theorem zext.rf {kd : ZK} {ad : Nat → Nat} {ca : Nat → ClassId} : zext kd ad ca kd ad ca := ⟨⟨[], (List.append_nil _).symm⟩, fun _ _ => ⟨rfl, rfl⟩⟩
def zret (r : ZV) (st : List ZV) : List ZV := if r.1 = 9 then st else r :: st
theorem zst_zret {E : ZE} {ad : Nat → Nat} {r : ZV} {st : List ZV} : zst E ad (zret r st) = (zval E ad r).toList ++ zst E ad st := by
  unfold zret zval
  split <;> rfl
section EVC
variable {X : Option (Nat × (Nat → Int))} {d : Nat} {M M2 : ZMeth} {mc ms mc2 ms2 pc : Nat} {ls st as : List ZV} {kd : ZK} {m : ZM} {Q Q2 : ZQ}
/-- behind any call: what the callee's contract says, and on -/
theorem EvX.ret_of (kk : ∀ (r : ZV) (kd' : ZK) (m' : ZM), Q2 r kd' m' → EvX X d M mc ms (pc + 3) ls (zret r st) kd' m' Q)
    (hl : ∀ v ∈ ls, zok kd v) (hs : ∀ v ∈ st, zok kd v) {E : ZE} {p : Program} {l : Launch} {e : Env} {R : Room} {s : State} {mi : MethodId} {args : Array Value} {below : List Frame} {meth : Method} {c : Code} {H : Heap} {locs : List Loc} {cells slots : Nat} {D : va_G} {A : Nat → Prop} {ad : Nat → Nat} {ca : Nat → ClassId} {tys : List (ClassId × FieldType)} {lsr : Array Slot} {Qs : State → Prop} {stf : List Value} {aa : Array Value} {free : Addr → Prop}
    (hF : ZFix M p s mi args meth c) (hR : d ≤ R.frames ∧ 60 * d ≤ R.locals ∧ cells + (mc + mc2) ≤ R.cells ∧ slots + (ms + ms2) ≤ R.slots) (hX : zscr X E) (hZ : ZRel D A kd m ad ca tys s H) (hS : va_S A s.heap H locs) (hA : ∀ q, s.heap.size ≤ q → A q) (hE : ZSf E A s s.heap) (hL : zloc E ad lsr M.2.2.1 ls)
    (hQ : ∀ (r : ZV) (kd' : ZK) (m' : ZM) (H' : Heap) (locs' : List Loc) (cells' slots' : Nat) (ad' : Nat → Nat) (ca' : Nat → ClassId) (tys' : List (ClassId × FieldType)) (lsr' : Array Slot) (pc' : Nat), Q r kd' m' → zokm kd' m' → zok kd' r → zext kd ad ca kd' ad' ca' → ZRel D A kd' m' ad' ca' tys' s H' → va_S A s.heap H' locs' → cells' ≤ R.cells → slots' ≤ R.slots → zretok M r → decode M.2.1 pc' = .ok (zretI M, 1) → W p l e R s mi args below meth c H' locs' cells' slots' Qs (F0 mi pc' lsr' (zrst E ad' r)))
    (hfree : ∀ q, free q → A q)
    (hr : va_Run p l e R s mi args below meth c H locs cells slots mc2 ms2 (F0 mi pc lsr stf) (zst E ad st) (ZQc E D kd m ad ca H.size Q2 aa) free) : W p l e R s mi args below meth c H locs cells slots Qs (F0 mi pc lsr stf) := by
  intro T hT Y
  obtain ⟨v, st₀, t, T', L, h0, Y', hLo, e1, e2, ⟨⟨r, kd', m', ad', ca', tys', hq, hmok, hrok, hext, ho, hZ'⟩, hz, hk⟩, stp⟩ := hr T hT Y
  have ev : v = zval E ad' r := by injection ho
  subst ev
  rw [h0] at hz hk
  have hAF : ∀ q, va_A (zw kd ad ca m) H.size q → A q := by
    intro q h
    rcases h with ⟨k, e, h⟩ | h
    · exact hZ.2.2.1.2 k (q, e) h
    · exact hA q (Nat.le_trans hS.1 h)
  have hal : s.vm.Alike t.vm := by rw [← e2]; exact Y'.warmed.alike
  have hZ2 : ZRel D A kd' m' ad' ca' tys' s T'.heap := by
    rw [e1]
    exact ⟨va_K.moved hal.symm hZ'.1, hZ'.2.1, hZ'.2.2.1.weaken (fun _ _ _ h => hAF _ h), hZ'.2.2.2⟩
  have hS2 : va_S A s.heap T'.heap (locs ++ L) := by
    refine ⟨Nat.le_trans hS.1 (by rw [e1]; exact hz), fun q h1 h2 => ?_, fun q hq => ?_⟩
    · rw [e1, hk q (Nat.lt_of_lt_of_le h1 hS.1) (fun z => h2 (hAF q z))]
      exact hS.2.1 q h1 h2
    · rcases List.mem_append.mp hq with h | h
      · exact hS.2.2 q h
      · exact hfree _ (hLo q h)
  have K := kk r kd' m' hq hmok (fun v hv => zok_mono hext.le (hl v hv)) (by
      intro v hv
      unfold zret at hv
      split at hv
      · exact zok_mono hext.le (hs v hv)
      · rcases List.mem_cons.mp hv with q | q
        · rw [q]; exact hrok
        · exact zok_mono hext.le (hs v q)) E p l e R s mi args below meth c T'.heap (locs ++ L) (cells + mc2) (slots + ms2) D A ad' ca' tys' lsr Qs hF ⟨hR.1, hR.2.1, by omega, by omega⟩ hX hZ2 hS2 hA hE (zloc_ext hext hl hL)
      (fun r1 kd1 m1 H1 locs1 cells1 slots1 ad1 ca1 tys1 lsr1 pc1 a1 a2 a3 a4 a5 a6 a7 a8 a9 a10 => hQ r1 kd1 m1 H1 locs1 cells1 slots1 ad1 ca1 tys1 lsr1 pc1 a1 a2 a3 (hext.trans a4) a5 a6 a7 a8 a9 a10)
  rw [zst_zret, zst_ext hext hs] at K
  obtain ⟨t2, a1, b1⟩ := K T' rfl Y'
  exact ⟨t2, stp t2 a1, b1⟩
theorem zpre {E : ZE} {s : State} {H : Heap} {locs : List Loc} {D : va_G} {A : Nat → Prop} {ad : Nat → Nat} {ca : Nat → ClassId} {tys : List (ClassId × FieldType)} (hZ : ZRel D A kd m ad ca tys s H) (hS : va_S A s.heap H locs) (hA : ∀ q, s.heap.size ≤ q → A q) (hE : ZSf E A s s.heap) : FrameBlind (ZPc E D kd m ad ca tys H.size as) ∧ ∀ U : State, U.heap = H → s.WarmedH U.vm → ZPc E D kd m ad ca tys H.size as (zst E ad as).toArray U := by
  refine ⟨fun a U g mk h => ?_, fun U hU hW => ?_⟩
  · obtain ⟨h1, h2, h3, h4⟩ := h
    exact ⟨h1, h2, ⟨va_K.moved (u := U) (U := U.calling g mk a) (Vm.Alike.refl U.vm) h3.1, h3.2⟩, h4.same rfl⟩
  · have hAF : ∀ q, va_A (zw kd ad ca m) H.size q → A q := by
      intro q h
      rcases h with ⟨k, e, h⟩ | h
      · exact hZ.2.2.1.2 k (q, e) h
      · exact hA q (Nat.le_trans hS.1 h)
    refine ⟨rfl, by rw [hU], ⟨va_K.moved hW.alike hZ.1, by rw [hU]; exact hZ.2.1, hZ.2.2.1.weaken (fun _ _ _ _ => trivial), hZ.2.2.2⟩, ?_⟩
    rw [hU]
    exact (hE.warm hW |>.kept hS.1 hS.2.1).narrow hAF
theorem zfree {s : State} {H : Heap} {locs : List Loc} {D : va_G} {A : Nat → Prop} {ad : Nat → Nat} {ca : Nat → ClassId} {tys : List (ClassId × FieldType)} (hZ : ZRel D A kd m ad ca tys s H) (hS : va_S A s.heap H locs) (hA : ∀ q, s.heap.size ≤ q → A q) : ∀ q, va_A (zw kd ad ca m) H.size q → A q := by
  intro q h
  rcases h with ⟨k, e, h⟩ | h
  · exact hZ.2.2.1.2 k (q, e) h
  · exact hA q (Nat.le_trans hS.1 h)
theorem zst_rev {E : ZE} {ad : Nat → Nat} {as st : List ZV} : zst E ad (as.reverse ++ st) = (zst E ad as).reverse ++ zst E ad st := by
  simp [zst, List.map_append, List.map_reverse]
def zcat : ZV → Nat
  | (1, _) => 2
  | _ => 1
theorem zroom {E : ZE} {ad : Nat → Nat} : ∀ {st : List ZV}, ((zst E ad st).map fun v => v.category).sum ≤ (st.map zcat).sum := by
  intro st
  induction st with
  | nil => exact Nat.le_refl _
  | cons v st ih =>
    show (zc E ad v).category + ((zst E ad st).map fun v => v.category).sum ≤ zcat v + (st.map zcat).sum
    have : (zc E ad v).category ≤ zcat v := by
      by_cases h : v.1 = 1
      · obtain ⟨t, x⟩ := v
        dsimp only at h
        subst h
        rw [(zc_cat E ad (1, x)).mpr rfl]
        exact Nat.le_refl 2
      · rw [zc_cat1 E ad v h]
        unfold zcat
        split <;> omega
    omega
/-- a static method is called -/
theorem EvX.callS {idx : Nat} (hd : decode M.2.1 pc = .ok (.invokestatic idx, 3)) (hlk : ZLk M.1.cls idx M2) (hok : ZOK M2) (hst : ZStat M2) (hpar : zpar M2 = some as.length) (hml : M2.2.2.1 ≤ 40) (hlen : (st.map zcat).sum ≤ 8)
    (hc : Ct d M2 mc2 ms2 as kd m Q2) (kk : ∀ (r : ZV) (kd' : ZK) (m' : ZM), Q2 r kd' m' → EvX X (d + 1) M mc ms (pc + 3) ls (zret r st) kd' m' Q) : EvX X (d + 1) M (mc + mc2) (ms + ms2) pc ls (as.reverse ++ st) kd m Q := by
  intro hm hl hs E p l e R s mi args below meth c H locs cells slots D A ad ca tys lsr Qs hF hR hX hZ hS hA hE hL hQ
  have hs2 : ∀ v ∈ st, zok kd v := fun v hv => hs v (List.mem_append_right _ hv)
  have has : ∀ v ∈ as, zok kd v := fun v hv => hs v (List.mem_append_left _ (List.mem_reverse.mpr hv))
  refine EvX.ret_of (aa := (zst E ad as).toArray) kk hl hs2 hF hR hX hZ hS hA hE hL hQ (zfree hZ hS hA) ?_
  have hM := hc hm has l E D ad ca tys H.size
  have hW : 2 * (F0 mi pc lsr (zst E ad (as.reverse ++ st))).monitorRoom + ((zst E ad st).map fun v => v.category).sum ≤ 8 := by
    have := zroom (E := E) (ad := ad) (st := st)
    show 2 * 0 + _ ≤ 8
    omega
  have hrm : (zRoom d mc2 ms2).frames + 1 ≤ R.frames ∧ 8 + (M2.2.2.1 + 11) + (zRoom d mc2 ms2).locals ≤ R.locals := by
    refine ⟨by show d + 1 ≤ _; omega, by show 8 + (M2.2.2.1 + 11) + 60 * d ≤ _; omega⟩
  have hzl : (zst E ad as).length = as.length := by simp [zst]
  rcases hlk with hlk | ⟨host, hlk⟩
  · exact va_runS (As := zst E ad as) (rest := zst E ad st) ⟨hF.1, hF.2.1, hF.2.2.1, hF.2.2.2.1, hF.2.2.2.2.1⟩ hM (va_cwS as.length hF.2.2.2.2.1 (zgood (fun w hw => by
      simp only [va_wsS, List.cons_append, List.nil_append, List.mem_cons] at hw
      rcases hw with rfl | rfl | rfl | rfl | hw
      · exact hlk
      · exact hst
      · exact hok.2.1
      · exact hok.1
      · exact hw)) rfl rfl rfl ⟨hok.2.2.2.1, hok.2.2.2.2, hpar⟩ hrm) (zpre hZ hS hA hE) rfl hzl hL.1 zst_rev hW hd ⟨by omega, by omega⟩
  · exact va_runSN (As := zst E ad as) (rest := zst E ad st) ⟨hF.1, hF.2.1, hF.2.2.1, hF.2.2.2.1, hF.2.2.2.2.1⟩ hM ⟨va_cnB as.length hF.2.2.2.2.1 (zgood (fun w hw => by
      rcases List.mem_cons.mp hw with rfl | hw
      · exact hok.1
      · exact hw)) rfl rfl rfl (hE.1 _ hlk) (hF.2.2.2.2.1 _ hok.2.1) ⟨hok.2.2.2.1, hok.2.2.2.2, hpar⟩ hrm, hF.2.2.2.2.1 _ hst, trivial⟩ (zpre hZ hS hA hE) rfl hzl hL.1 zst_rev hW hd ⟨by omega, by omega⟩
theorem zrecv {s : State} {H : Heap} {D : va_G} {A : Nat → Prop} {ad : Nat → Nat} {ca : Nat → ClassId} {tys : List (ClassId × FieldType)} {a c : Nat} {C : String} (hZ : ZRel D A kd m ad ca tys s H) (h : kd[a]? = some (c + 10, (zTags.getD c []).length)) (hc : (zCl[c]?).map (·.1) = some C) : ∃ cell : Cell, H[ad a]? = some cell ∧ cell.vm.isStatics = false ∧ s.vm.findClass C = some cell.cls := by
  have he := zw_at (ad := ad) (ca := ca) (m := m) h
  rw [zcell_obj] at he
  cases hq : zCl[c]? with
  | none => rw [hq] at hc; cases hc
  | some q =>
    rw [hq] at hc
    have e : q.1 = C := by simpa using hc
    rw [← e]
    exact va_recv hZ.1 hZ.2.1 hq he
/-- a method of an object is called -/
theorem EvX.callV {idx c : Nat} {a : Int} (hd : decode M.2.1 pc = .ok (.invokevirtual idx, 3)) (hlk : ZLk M.1.cls idx M2) (hok : ZOK M2) (hvi : ZVirt M2) (hpar : zpar M2 = some as.length) (hml : M2.2.2.1 ≤ 40) (hlen : (st.map zcat).sum ≤ 8) (hcl : (zCl[c]?).map (·.1) = some M2.1.cls) (ho : zobj kd a c)
    (hc : Ct d M2 mc2 ms2 ((2, a) :: as) kd m Q2) (kk : ∀ (r : ZV) (kd' : ZK) (m' : ZM), Q2 r kd' m' → EvX X (d + 1) M mc ms (pc + 3) ls (zret r st) kd' m' Q) : EvX X (d + 1) M (mc + mc2) (ms + ms2) pc ls (as.reverse ++ (2, a) :: st) kd m Q := by
  intro hm hl hs E p l e R s mi args below meth c0 H locs cells slots D A ad ca tys lsr Qs hF hR hX hZ hS hA hE hL hQ
  have hs2 : ∀ v ∈ st, zok kd v := fun v hv => hs v (List.mem_append_right _ (List.mem_cons_of_mem _ hv))
  have has : ∀ v ∈ (2, a) :: as, zok kd v := fun v hv => by
    rcases List.mem_cons.mp hv with q | q
    · exact hs v (List.mem_append_right _ (by rw [q]; exact List.mem_cons_self))
    · exact hs v (List.mem_append_left _ (List.mem_reverse.mpr q))
  refine EvX.ret_of (aa := (Value.ref (ad a.toNat) :: zst E ad as).toArray) kk hl hs2 hF hR hX hZ hS hA hE hL hQ (zfree hZ hS hA) ?_
  have hM := hc hm has l E D ad ca tys H.size
  obtain ⟨h0, hkd⟩ := ho
  have hW : 2 * (F0 mi pc lsr (zst E ad (as.reverse ++ (2, a) :: st))).monitorRoom + ((zst E ad st).map fun v => v.category).sum ≤ 8 := by
    have := zroom (E := E) (ad := ad) (st := st)
    show 2 * 0 + _ ≤ 8
    omega
  have hrm : (zRoom d mc2 ms2).frames + 1 ≤ R.frames ∧ 8 + (M2.2.2.1 + 11) + (zRoom d mc2 ms2).locals ≤ R.locals := by
    refine ⟨by show d + 1 ≤ _; omega, by show 8 + (M2.2.2.1 + 11) + 60 * d ≤ _; omega⟩
  have hzl : (zst E ad as).length = as.length := by simp [zst]
  have hpr := zpre (as := (2, a) :: as) hZ hS hA hE
  have ea : zst E ad ((2, a) :: as) = .ref (ad a.toNat) :: zst E ad as := by
    show zc E ad (2, a) :: zst E ad as = _
    rw [zc_ref0 h0]
  have est : zst E ad (as.reverse ++ (2, a) :: st) = (zst E ad as).reverse ++ .ref (ad a.toNat) :: zst E ad st := by
    rw [zst_rev]
    show _ ++ (zc E ad (2, a) :: zst E ad st) = _
    rw [zc_ref0 h0]
  rw [ea] at hpr
  rw [est]
  have hrc := zrecv hZ hkd hcl
  rcases hlk with hlk | ⟨host, hlk⟩
  · exact va_runV (C := M2.1.cls) (b := ad a.toNat) (As := zst E ad as) (rest := zst E ad st) ⟨hF.1, hF.2.1, hF.2.2.1, hF.2.2.2.1, hF.2.2.2.2.1⟩ hM (cwV as.length hF.2.2.2.2.1 (zgood (fun w hw => by
      simp only [wsV, List.cons_append, List.nil_append, List.mem_cons] at hw
      rcases hw with rfl | rfl | rfl | rfl | rfl | hw
      · exact hlk
      · exact hvi.1
      · exact hvi.2
      · exact hok.2.1
      · exact hok.1
      · exact hw)) rfl rfl rfl ⟨rfl, hok.2.2.2.1, hok.2.2.2.2, hpar⟩ hrm) ⟨hpr.1, hrc, hpr.2⟩ rfl hzl hL.1 rfl hW hd ⟨by omega, by omega⟩
  · exact va_runVN (C := M2.1.cls) (b := ad a.toNat) (As := zst E ad as) (rest := zst E ad st) ⟨hF.1, hF.2.1, hF.2.2.1, hF.2.2.2.1, hF.2.2.2.2.1⟩ hM ⟨va_cnB as.length hF.2.2.2.2.1 (zgood (fun w hw => by
      rcases List.mem_cons.mp hw with rfl | hw
      · exact hok.1
      · exact hw)) rfl rfl rfl (hE.1 _ hlk) (hF.2.2.2.2.1 _ hok.2.1) ⟨hok.2.2.2.1, hok.2.2.2.2, hpar⟩ hrm, hF.2.2.2.2.1 _ hvi.1, hF.2.2.2.2.1 _ hvi.2⟩ ⟨hpr.1, hrc, hpr.2⟩ rfl hzl hL.1 rfl hW hd ⟨by omega, by omega⟩
/-- a constructor is called -/
theorem EvX.callI {idx : Nat} {a : Int} (hd : decode M.2.1 pc = .ok (.invokespecial idx, 3)) (hlk : ZLk M.1.cls idx M2) (hok : ZOK M2) (hin : ZInit M2) (hret : M2.2.2.2 = none) (hpar : zpar M2 = some as.length) (hml : M2.2.2.1 ≤ 40) (hlen : (st.map zcat).sum ≤ 8) (ho : 0 ≤ a)
    (hc : Ct d M2 mc2 ms2 ((2, a) :: as) kd m Q2) (kk : ∀ (r : ZV) (kd' : ZK) (m' : ZM), Q2 r kd' m' → EvX X (d + 1) M mc ms (pc + 3) ls (zret r st) kd' m' Q) : EvX X (d + 1) M (mc + mc2) (ms + ms2) pc ls (as.reverse ++ (2, a) :: st) kd m Q := by
  intro hm hl hs E p l e R s mi args below meth c0 H locs cells slots D A ad ca tys lsr Qs hF hR hX hZ hS hA hE hL hQ
  have hs2 : ∀ v ∈ st, zok kd v := fun v hv => hs v (List.mem_append_right _ (List.mem_cons_of_mem _ hv))
  have has : ∀ v ∈ (2, a) :: as, zok kd v := fun v hv => by
    rcases List.mem_cons.mp hv with q | q
    · exact hs v (List.mem_append_right _ (by rw [q]; exact List.mem_cons_self))
    · exact hs v (List.mem_append_left _ (List.mem_reverse.mpr q))
  refine EvX.ret_of (aa := (Value.ref (ad a.toNat) :: zst E ad as).toArray) kk hl hs2 hF hR hX hZ hS hA hE hL hQ (zfree hZ hS hA) ?_
  have hM := hc hm has l E D ad ca tys H.size
  rw [hret] at hM
  have hW : 2 * (F0 mi pc lsr (zst E ad (as.reverse ++ (2, a) :: st))).monitorRoom + ((zst E ad st).map fun v => v.category).sum ≤ 8 := by
    have := zroom (E := E) (ad := ad) (st := st)
    show 2 * 0 + _ ≤ 8
    omega
  have hrm : (zRoom d mc2 ms2).frames + 1 ≤ R.frames ∧ 8 + (M2.2.2.1 + 11) + (zRoom d mc2 ms2).locals ≤ R.locals := by
    refine ⟨by show d + 1 ≤ _; omega, by show 8 + (M2.2.2.1 + 11) + 60 * d ≤ _; omega⟩
  have hzl : (zst E ad as).length = as.length := by simp [zst]
  have hpr := zpre (as := (2, a) :: as) hZ hS hA hE
  have ea : zst E ad ((2, a) :: as) = .ref (ad a.toNat) :: zst E ad as := by
    show zc E ad (2, a) :: zst E ad as = _
    rw [zc_ref0 ho]
  have est : zst E ad (as.reverse ++ (2, a) :: st) = (zst E ad as).reverse ++ .ref (ad a.toNat) :: zst E ad st := by
    rw [zst_rev]
    show _ ++ (zc E ad (2, a) :: zst E ad st) = _
    rw [zc_ref0 ho]
  rw [ea] at hpr
  rw [est]
  have hok1 := hok.1
  rw [hret] at hok1
  have hg : GoodIn zWs (Cond.code M2.1 M2.2.1 M2.2.2.1 none :: zWs) := zgood (fun w hw => by
      rcases List.mem_cons.mp hw with rfl | hw
      · exact hok1
      · exact hw)
  rcases hlk with hlk | ⟨host, hlk⟩
  · exact va_runI (b := ad a.toNat) (As := zst E ad as) (rest := zst E ad st) ⟨hF.1, hF.2.1, hF.2.2.1, hF.2.2.2.1, hF.2.2.2.2.1⟩ hM (cwI as.length hF.2.2.2.2.1 hg rfl rfl rfl (hF.2.2.2.2.1 _ hok.2.1) (hF.2.2.2.2.1 _ hlk) (hF.2.2.2.2.1 _ hin.1) hin.2 ⟨hok.2.2.2.1, hok.2.2.2.2, hpar⟩ hrm) hpr rfl hzl hL.1 rfl hW hd ⟨by omega, by omega⟩
  · exact va_runIN (b := ad a.toNat) (As := zst E ad as) (rest := zst E ad st) ⟨hF.1, hF.2.1, hF.2.2.1, hF.2.2.2.1, hF.2.2.2.2.1⟩ hM ⟨va_cnB as.length hF.2.2.2.2.1 hg rfl rfl rfl (hE.1 _ hlk) (hF.2.2.2.2.1 _ hok.2.1) ⟨hok.2.2.2.1, hok.2.2.2.2, hpar⟩ hrm, hin.2, hF.2.2.2.2.1 _ hin.1⟩ hpr rfl hzl hL.1 rfl hW hd ⟨by omega, by omega⟩
/-- the constructor of Object -/
theorem EvX.objInit {idx : Nat} {a : Int} (hd : decode M.2.1 pc = .ok (.invokespecial idx, 3)) (hlk : Cond.methodLink M.1.cls idx Lib.objectInit ∈ zWs) (h1 : Cond.instanceMethod Lib.objectInit ∈ zWs) (h2 : Cond.code Lib.objectInit ⟨#[0xb1]⟩ 1 none ∈ zWs) (ho : 0 ≤ a) (hlen : (st.map zcat).sum ≤ 8) (kk : EvX X (d + 1) M mc ms (pc + 3) ls st kd m Q) : EvX X (d + 1) M mc ms pc ls ((2, a) :: st) kd m Q := by
  intro hm hl hs E p l e R s mi args below meth c0 H locs cells slots D A ad ca tys lsr Qs hF hR hX hZ hS hA hE hL hQ
  have K := kk hm hl (zoks_tail hs) E p l e R s mi args below meth c0 H locs cells slots D A ad ca tys lsr Qs hF hR hX hZ hS hA hE hL hQ
  show W p l e R s mi args below meth c0 H locs cells slots Qs (F0 mi pc lsr (zc E ad (2, a) :: zst E ad st))
  rw [zc_ref0 ho]
  have := zroom (E := E) (ad := ad) (st := st)
  exact W.objInit hF.1 hF.2.1 hF.2.2.2.1 (hF.2.2.2.2.1 _ hlk) (hF.2.2.2.2.1 _ h1) (hF.2.2.2.2.1 _ h2) rfl (by rw [hF.2.2.1]; exact hL.1) rfl hd (by omega) (by show 2 * 0 + _ + 12 ≤ _; omega) K
/-! Math -/
theorem EvX.mmax {idx : Nat} {x y : Int} (hd : decode M.2.1 pc = .ok (.invokestatic idx, 3)) (h1 : Cond.methodLink M.1.cls idx Lib.Math.max.name ∈ zWs) (h2 : Cond.static Lib.Math.max.name ∈ zWs) (h3 : Cond.initialized "java/lang/Math" ∈ zWs) (h4 : Cond.code Lib.Math.max.name Lib.Math.max.code 2 (some .int) ∈ zWs) (hlen : (st.map zcat).sum ≤ 8)
    (kk : EvX X (d + 1) M mc ms (pc + 3) ls ((0, if x < y then y else x) :: st) kd m Q) : EvX X (d + 1) M mc ms pc ls ((0, y) :: (0, x) :: st) kd m Q := by
  intro hm hl hs E p l e R s mi args below meth c0 H locs cells slots D A ad ca tys lsr Qs hF hR hX hZ hS hA hE hL hQ
  have hx := zi0 (zoks_tail hs)
  have hy := zi0 hs
  have K := kk hm hl (zoks_cons (zok_i (by split <;> assumption)) (zoks_tail (zoks_tail hs))) E p l e R s mi args below meth c0 H locs cells slots D A ad ca tys lsr Qs hF hR hX hZ hS hA hE hL hQ
  have := zroom (E := E) (ad := ad) (st := st)
  refine va_mmax (rest := zst E ad st) hF.1 hF.2.1 (by rw [hF.2.2.1, hL.1]) hF.2.2.2.1 (hF.2.2.2.2.1 _ h1) (hF.2.2.2.2.1 _ h2) (hF.2.2.2.2.1 _ h3) (hF.2.2.2.2.1 _ h4) (by omega) (by omega) (by omega) (by omega) hd ?_
  have e1 : (if Int32.ofInt x < Int32.ofInt y then Int32.ofInt y else Int32.ofInt x) = Int32.ofInt (if x < y then y else x) := by
    simp only [zi_lt hx hy]; split <;> rfl
  show W p l e R s mi args below meth c0 H locs cells slots Qs (F0 mi (pc + 3) lsr (.int (if Int32.ofInt x < Int32.ofInt y then Int32.ofInt y else Int32.ofInt x) :: zst E ad st))
  rw [e1]
  exact K
theorem EvX.mmin {idx : Nat} {x y : Int} (hd : decode M.2.1 pc = .ok (.invokestatic idx, 3)) (h1 : Cond.methodLink M.1.cls idx Lib.Math.min.name ∈ zWs) (h2 : Cond.static Lib.Math.min.name ∈ zWs) (h3 : Cond.initialized "java/lang/Math" ∈ zWs) (h4 : Cond.code Lib.Math.min.name Lib.Math.min.code 2 (some .int) ∈ zWs) (hlen : (st.map zcat).sum ≤ 8)
    (kk : EvX X (d + 1) M mc ms (pc + 3) ls ((0, if y < x then y else x) :: st) kd m Q) : EvX X (d + 1) M mc ms pc ls ((0, y) :: (0, x) :: st) kd m Q := by
  intro hm hl hs E p l e R s mi args below meth c0 H locs cells slots D A ad ca tys lsr Qs hF hR hX hZ hS hA hE hL hQ
  have hx := zi0 (zoks_tail hs)
  have hy := zi0 hs
  have K := kk hm hl (zoks_cons (zok_i (by split <;> assumption)) (zoks_tail (zoks_tail hs))) E p l e R s mi args below meth c0 H locs cells slots D A ad ca tys lsr Qs hF hR hX hZ hS hA hE hL hQ
  have := zroom (E := E) (ad := ad) (st := st)
  refine va_mmin (rest := zst E ad st) hF.1 hF.2.1 (by rw [hF.2.2.1, hL.1]) hF.2.2.2.1 (hF.2.2.2.2.1 _ h1) (hF.2.2.2.2.1 _ h2) (hF.2.2.2.2.1 _ h3) (hF.2.2.2.2.1 _ h4) (by omega) (by omega) (by omega) (by omega) hd ?_
  have e1 : (if Int32.ofInt y < Int32.ofInt x then Int32.ofInt y else Int32.ofInt x) = Int32.ofInt (if y < x then y else x) := by
    simp only [zi_lt hy hx]; split <;> rfl
  show W p l e R s mi args below meth c0 H locs cells slots Qs (F0 mi (pc + 3) lsr (.int (if Int32.ofInt y < Int32.ofInt x then Int32.ofInt y else Int32.ofInt x) :: zst E ad st))
  rw [e1]
  exact K
theorem EvX.mabs {idx : Nat} {x : Int} (hd : decode M.2.1 pc = .ok (.invokestatic idx, 3)) (h1 : Cond.methodLink M.1.cls idx Lib.Math.abs.name ∈ zWs) (h2 : Cond.static Lib.Math.abs.name ∈ zWs) (h3 : Cond.initialized "java/lang/Math" ∈ zWs) (h4 : Cond.code Lib.Math.abs.name Lib.Math.abs.code 1 (some .int) ∈ zWs) (hlen : (st.map zcat).sum ≤ 8)
    (kk : EvX X (d + 1) M mc ms (pc + 3) ls ((0, if 0 ≤ x then x else iw (-x)) :: st) kd m Q) : EvX X (d + 1) M mc ms pc ls ((0, x) :: st) kd m Q := by
  intro hm hl hs E p l e R s mi args below meth c0 H locs cells slots D A ad ca tys lsr Qs hF hR hX hZ hS hA hE hL hQ
  have hx := zi0 hs
  have K := kk hm hl (zoks_cons (zok_i (by split; assumption; exact zin_iw _)) (zoks_tail hs)) E p l e R s mi args below meth c0 H locs cells slots D A ad ca tys lsr Qs hF hR hX hZ hS hA hE hL hQ
  have := zroom (E := E) (ad := ad) (st := st)
  refine va_mabs (rest := zst E ad st) hF.1 hF.2.1 (by rw [hF.2.2.1, hL.1]) hF.2.2.2.1 (hF.2.2.2.2.1 _ h1) (hF.2.2.2.2.1 _ h2) (hF.2.2.2.2.1 _ h3) (hF.2.2.2.2.1 _ h4) (by omega) (by omega) (by omega) (by omega) hd ?_
  have e1 : (if (0 : Int32) ≤ Int32.ofInt x then Int32.ofInt x else 0 - Int32.ofInt x) = Int32.ofInt (if 0 ≤ x then x else iw (-x)) := by
    have h0 : (0 : Int32) ≤ Int32.ofInt x ↔ 0 ≤ x := zi_le zin_0 hx
    simp only [h0]; split
    · rfl
    · rw [zi_iw, show -x = 0 - x by omega, Int32.ofInt_sub]; rfl
  show W p l e R s mi args below meth c0 H locs cells slots Qs (F0 mi (pc + 3) lsr (.int (if (0 : Int32) ≤ Int32.ofInt x then Int32.ofInt x else 0 - Int32.ofInt x) :: zst E ad st))
  rw [e1]
  exact K
end EVC
