/-! A METHOD'S START AND END; STRING CONSTANTS; CONTRACTS OF METHODS THAT MAKE NOTHING -/
theorem zent_sl {E : ZE} {ad : Nat → Nat} : ∀ (as : List ZV), (lg_sl (zst E ad as)).length = (zent as).length := by
  intro as
  induction as with
  | nil => rfl
  | cons v as ih =>
    obtain ⟨t, x⟩ := v
    show (List.flatMap _ (zc E ad (t, x) :: zst E ad as)).length = _
    rw [List.flatMap_cons, List.length_append]
    have ih2 : (List.flatMap (fun v : Value => if v.category = 2 then [Slot.val v, .second] else [.val v]) (zst E ad as)).length = (zent as).length := ih
    rw [ih2]
    by_cases h : t = 1
    · subst h
      rw [if_pos ((zc_cat E ad (1, x)).mpr rfl)]
      show 2 + _ = (zent ((1, x) :: as)).length
      rw [zent]; simp; omega
    · rw [if_neg (fun q => h ((zc_cat E ad (t, x)).mp q))]
      have e : zent ((t, x) :: as) = (t, x) :: zent as := by
        rw [zent]
        intro y hy
        simp only [Prod.mk.injEq] at hy
        exact h hy.1
      rw [e]; simp; omega
theorem zent_at {E : ZE} {ad : Nat → Nat} : ∀ (as : List ZV) (k i : Nat) (v : ZV), (zent as)[i]? = some v → v.1 ≠ 9 → (k + i, zc E ad v) ∈ lv_args k (zst E ad as) := by
  intro as
  induction as with
  | nil => intro k i v h; simp [zent] at h
  | cons u as ih =>
    intro k i v h h9
    obtain ⟨t, x⟩ := u
    show _ ∈ (k, zc E ad (t, x)) :: lv_args (if (zc E ad (t, x)).category = 2 then k + 2 else k + 1) (zst E ad as)
    by_cases ht : t = 1
    · subst ht
      rw [if_pos ((zc_cat E ad (1, x)).mpr rfl)]
      rw [show zent ((1, x) :: as) = (1, x) :: zJ :: zent as by rw [zent]] at h
      match i with
      | 0 => simp at h; subst h; exact List.mem_cons_self
      | 1 => simp at h; subst h; exact absurd rfl h9
      | i + 2 =>
        have := ih (k + 2) i v (by simpa using h) h9
        rw [show k + (i + 2) = k + 2 + i by omega]
        exact List.mem_cons_of_mem _ this
    · rw [if_neg (fun q => ht ((zc_cat E ad (t, x)).mp q))]
      have e : zent ((t, x) :: as) = (t, x) :: zent as := by
        rw [zent]
        intro y hy
        simp only [Prod.mk.injEq] at hy
        exact ht hy.1
      rw [e] at h
      match i with
      | 0 => simp at h; subst h; exact List.mem_cons_self
      | i + 1 =>
        have := ih (k + 1) i v (by simpa using h) h9
        rw [show k + (i + 1) = k + 1 + i by omega]
        exact List.mem_cons_of_mem _ this
theorem zent_mem {kd : ZK} : ∀ (as : List ZV), (∀ v ∈ as, zok kd v) → ∀ v ∈ zent as, zok kd v := by
  intro as
  induction as with
  | nil => intro _ v hv; simp [zent] at hv
  | cons u as ih =>
    intro h v hv
    obtain ⟨t, x⟩ := u
    by_cases ht : t = 1
    · subst ht
      rw [show zent ((1, x) :: as) = (1, x) :: zJ :: zent as by rw [zent]] at hv
      rcases List.mem_cons.mp hv with q | q
      · rw [q]; exact zoks_head h
      · rcases List.mem_cons.mp q with q | q
        · rw [q]; exact zok_J
        · exact ih (zoks_tail h) v q
    · have e : zent ((t, x) :: as) = (t, x) :: zent as := by
        rw [zent]
        intro y hy
        simp only [Prod.mk.injEq] at hy
        exact ht hy.1
      rw [e] at hv
      rcases List.mem_cons.mp hv with q | q
      · rw [q]; exact zoks_head h
      · exact ih (zoks_tail h) v q
section EVS
variable {X : Option (Nat × (Nat → Int))} {d : Nat} {M M2 : ZMeth} {mc ms pc : Nat} {ls st as : List ZV} {kd : ZK} {m : ZM} {Q : ZQ}
theorem EvX.ret {r : ZV} (hd : decode M.2.1 pc = .ok (zretI M, 1)) (hr : zretok M r) (hq : Q r kd m) : EvX X d M mc ms pc ls (zret r []) kd m Q := by
  intro hm hl hs E p l e R s mi args below meth c0 H locs cells slots D A ad ca tys lsr Qs hF hR hX hZ hS hA hE hL hQ
  have e1 : zst E ad (zret r []) = zrst E ad r := by unfold zret zrst; split <;> rfl
  have hrk : zok kd r := by
    by_cases h : r.1 = 9
    · exact ⟨fun q => by omega, fun q => by omega, fun q => by omega⟩
    · exact hs r (by unfold zret; rw [if_neg h]; exact List.mem_cons_self)
  rw [e1]
  exact hQ r kd m H locs cells slots ad ca tys lsr pc hq hm hrk zext.rf hZ hS (by omega) (by omega) hr hd
theorem Ct.startF (hpl : plainFor M.1 = true) (hlen : (zent as).length ≤ M.2.2.1) (hT : ∃ t : Nat, (t = 0 ∧ M.2.2.2 = none) ∨ (t = 1 ∧ M.2.2.2 = some .int) ∨ (t = 2 ∧ M.2.2.2 = some .boolean) ∨ (t = 3 ∧ M.2.2.2 = some .long) ∨ (t = 4 ∧ ∃ ty, M.2.2.2 = some (.array ty)) ∨ (t = 5 ∧ M.2.2.2 = some .byte) ∨ (t = 6 ∧ M.2.2.2 = some .char)) (k : Ev d M mc ms 0 (zent0 as M.2.2.1) [] kd m Q) : Ct d M mc ms as kd m Q := by
  intro hm has l E D ad ca tys sz
  refine va_MetF (cc := M.2.1) (maxL := M.2.2.1) (ret := M.2.2.2) hpl rfl ?_
  intro p e s mi args below meth c s₁ B hml hv
  obtain ⟨rfl, hsz, hZ, hE⟩ := hv
  subst hsz
  have hts := atoms_spec (ws := Cond.code M.1 M.2.1 M.2.2.1 M.2.2.2 :: zWs) B.pre
  have hown : s.vm.findClass M.1.cls = some mi.cls := findClass_of_methodNamed B.named
  have hF : ZFix M p s mi (zst E ad as).toArray meth c := ⟨B.exec, B.bytes, hml, hown, fun w hw => hts w (List.mem_cons_of_mem _ hw), (name_of_methodNamed B.named B.method).1⟩
  have hZ2 : ZRel D (va_A (zw kd ad ca m) s.heap.size) kd m ad ca tys s s.heap := ⟨hZ.1, hZ.2.1, hZ.2.2.1.self, hZ.2.2.2⟩
  have hl := lv_entry (zst E ad as) (n := M.2.2.1) (by rw [zent_sl]; exact hlen)
  rw [lg_entry_eq]
  generalize (lg_sl (zst E ad as) ++ List.replicate (M.2.2.1 - (lg_sl (zst E ad as)).length) Slot.unset).toArray = lsr at hl ⊢
  have hL : zloc E ad lsr M.2.2.1 (zent0 as M.2.2.1) := by
    refine ⟨hl.1, hl.2.1, fun i v hi h9 => ?_⟩
    unfold zent0 at hi
    by_cases h : i < (zent as).length
    · rw [List.getElem?_append_left h] at hi
      have := zent_at (E := E) (ad := ad) as 0 i v hi h9
      rw [Nat.zero_add] at this
      exact hl.2.2 _ this
    · rw [List.getElem?_append_right (by omega)] at hi
      have := List.eq_of_mem_replicate (List.mem_of_getElem? hi)
      rw [this] at h9
      exact absurd rfl h9
  have hlk : ∀ v ∈ zent0 as M.2.2.1, zok kd v := by
    intro v hv
    rcases List.mem_append.mp hv with h | h
    · exact zent_mem as has v h
    · rw [List.eq_of_mem_replicate h]; exact zok_J
  have hA : ∀ q : Nat, s.heap.size ≤ q → va_A (zw kd ad ca m) s.heap.size q := fun q h => Or.inr h
  have hlocks := B.notSynchronized
  refine k hm hlk (fun v hv => absurd hv List.not_mem_nil) E p l e (zRoom d mc ms) s mi _ below meth c s.heap [] 0 0 D _ ad ca tys lsr _ hF ⟨Nat.le_refl _, Nat.le_refl _, by show 0 + mc ≤ mc; omega, by show 0 + ms ≤ ms; omega⟩ (fun _ _ h => by cases h) hZ2 va_S.rf hA hE hL ?_
  intro r kd' m' H' locs' cells' slots' ad' ca' tys' lsr' pc' hq hmok hrok hext hZ' hS' hc hs hrt hdec
  refine W.widen (k := mc) (n := ms) hc hs ?_
  have post : ∀ (o : Option Value), o = zval E ad' r → ∀ t : State, t.heap = H' → s.WarmedH t.vm → ZQc E D kd m ad ca s.heap.size Q (zst E ad as).toArray s (.returned o) t := by
    intro o ho t ht hW
    subst ho
    exact ⟨⟨r, kd', m', ad', ca', tys', hq, hmok, hrok, hext, rfl, va_K.moved hW.alike hZ'.1, by rw [ht]; exact hZ'.2.1, hZ'.2.2.1, hZ'.2.2.2⟩, hS'.F ht⟩
  obtain ⟨t, hT⟩ := hT
  obtain ⟨rt, rx⟩ := r
  rcases hT with ⟨-, h⟩ | ⟨-, h⟩ | ⟨-, h⟩ | ⟨-, h⟩ | ⟨-, ty, h⟩ | ⟨-, h⟩ | ⟨-, h⟩ <;> simp only [zretok, zretI, h] at hrt hdec
  · subst hrt
    exact W.vret B.exec B.bytes (B.returns.trans h) (post none rfl) hS'.2.2 hdec hlocks
  · subst hrt
    exact W.iret (v := Int32.ofInt rx) B.exec B.bytes (B.returns.trans h) (post _ rfl) hS'.2.2 hdec hlocks
  · obtain ⟨h1, h2, h3⟩ := hrt
    subst h1
    refine W.zret (v := Int32.ofInt rx) (ty := .boolean) B.exec B.bytes (B.returns.trans h) ?_ (post _ rfl) hS'.2.2 hdec hlocks
    rcases (show rx = 0 ∨ rx = 1 by omega) with rfl | rfl <;> rfl
  · subst hrt
    exact W.lret (v := Int64.ofInt rx) B.exec B.bytes (B.returns.trans h) (post _ rfl) hS'.2.2 hdec hlocks
  · subst hrt
    refine W.aret (v := zc E ad' (2, rx)) B.exec B.bytes (B.returns.trans h) (Or.inr ⟨ty, rfl⟩) (zc_isr (Or.inl rfl)) (post _ rfl) hS'.2.2 hdec hlocks
  · obtain ⟨h1, h2, h3⟩ := hrt
    subst h1
    refine W.zret (v := Int32.ofInt rx) (ty := .byte) B.exec B.bytes (B.returns.trans h) ?_ (post _ rfl) hS'.2.2 hdec hlocks
    show Value.int _ = Value.int _
    have := zi_nar8 h2 h3
    rw [vp_nar_byte] at this
    rw [this]
  · obtain ⟨h1, h2, h3⟩ := hrt
    subst h1
    refine W.zret (v := Int32.ofInt rx) (ty := .char) B.exec B.bytes (B.returns.trans h) ?_ (post _ rfl) hS'.2.2 hdec hlocks
    obtain ⟨q, rfl⟩ : ∃ q : Nat, rx = (q : Int) := ⟨rx.toNat, by omega⟩
    exact (pk_charN (q := q) (by omega)).1
theorem Ct.start (hok : ZOK M) (hlen : (zent as).length ≤ M.2.2.1) (hT : ∃ t : Nat, (t = 0 ∧ M.2.2.2 = none) ∨ (t = 1 ∧ M.2.2.2 = some .int) ∨ (t = 2 ∧ M.2.2.2 = some .boolean) ∨ (t = 3 ∧ M.2.2.2 = some .long) ∨ (t = 4 ∧ ∃ ty, M.2.2.2 = some (.array ty)) ∨ (t = 5 ∧ M.2.2.2 = some .byte) ∨ (t = 6 ∧ M.2.2.2 = some .char)) (k : Ev d M mc ms 0 (zent0 as M.2.2.1) [] kd m Q) : Ct d M mc ms as kd m Q :=
  Ct.startF (plainFor_of_name hok.2.2.1) hlen hT k
theorem Ct.mono {Q2 : ZQ} (h : ∀ r kd' m', Q r kd' m' → Q2 r kd' m') (c : Ct d M mc ms as kd m Q) : Ct d M mc ms as kd m Q2 := by
  intro hm has l E D ad ca tys sz
  refine MetFree.mono (c hm has l E D ad ca tys sz) (fun _ _ h => h) (fun _ _ _ _ _ h => h) (fun a s o s' _ hq => ?_)
  obtain ⟨⟨⟨r, kd', m', ad', ca', tys', h1, h2⟩, h3⟩, h4⟩ := hq
  exact ⟨⟨⟨r, kd', m', ad', ca', tys', h r kd' m' h1, h2⟩, h3⟩, h4⟩
/-- contracts of methods that make no cell: an int (boolean, ..), a long, a reference, nothing -/
def CtI (d : Nat) (M : ZMeth) (as : List ZV) (kd : ZK) (m : ZM) (q : Int → ZM → Prop) : Prop := Ct d M 0 0 as kd m (fun r kd' m' => ∃ x, r = (0, x) ∧ kd' = kd ∧ q x m')
def CtL (d : Nat) (M : ZMeth) (as : List ZV) (kd : ZK) (m : ZM) (q : Int → ZM → Prop) : Prop := Ct d M 0 0 as kd m (fun r kd' m' => ∃ x, r = (1, x) ∧ kd' = kd ∧ q x m')
def CtR (d : Nat) (M : ZMeth) (as : List ZV) (kd : ZK) (m : ZM) (q : Int → ZM → Prop) : Prop := Ct d M 0 0 as kd m (fun r kd' m' => ∃ x, r = (2, x) ∧ kd' = kd ∧ q x m')
def CtV (d : Nat) (M : ZMeth) (as : List ZV) (kd : ZK) (m : ZM) (q : ZM → Prop) : Prop := Ct d M 0 0 as kd m (fun r kd' m' => r = zJ ∧ kd' = kd ∧ q m')
/-- how such a method ends -/
def zqI (kd : ZK) (q : Int → ZM → Prop) : ZQ := fun r kd' m' => ∃ x, r = (0, x) ∧ kd' = kd ∧ q x m'
def zqL (kd : ZK) (q : Int → ZM → Prop) : ZQ := fun r kd' m' => ∃ x, r = (1, x) ∧ kd' = kd ∧ q x m'
def zqR (kd : ZK) (q : Int → ZM → Prop) : ZQ := fun r kd' m' => ∃ x, r = (2, x) ∧ kd' = kd ∧ q x m'
def zqV (kd : ZK) (q : ZM → Prop) : ZQ := fun r kd' m' => r = zJ ∧ kd' = kd ∧ q m'
/-! String constants -/
def zslen (i : Int) : Int := ((zsLen.getD i.toNat 0 : Nat) : Int)
def zsbyte (i k : Int) : Int := ((zsByt.getD i.toNat []).getD k.toNat 0).toInt
theorem EvX.getsC {idx : Nat} (hd : decode M.2.1 pc = .ok (.getstatic idx, 3)) (h1 : Cond.fieldLink M.1.cls idx "java/lang/String" "COMPACT_STRINGS" "Z" ∈ zWs) (kk : EvX X d M mc ms (pc + 3) ls ((0, 1) :: st) kd m Q) : EvX X d M mc ms pc ls st kd m Q := by
  intro hm hl hs E p l e R s mi args below meth c0 H locs cells slots D A ad ca tys lsr Qs hF hR hX hZ hS hA hE hL hQ
  exact va_gets hF.1 hF.2.1 hE.2.2.2.2.1 hS hF.2.2.2.1 (hF.2.2.2.2.1 _ h1) (fun _ h => h) hd (kk hm hl (zoks_cons (zok_i ⟨by decide, by decide⟩) hs) E p l e R s mi args below meth c0 H locs cells slots D A ad ca tys lsr Qs hF hR hX hZ hS hA hE hL hQ)
theorem EvX.getsF {idx : Nat} (hd : decode M.2.1 pc = .ok (.getstatic idx, 3)) (h1 : Cond.fieldLink M.1.cls idx "jdk/internal/util/Preconditions" "SIOOBE_FORMATTER" "Ljava/util/function/BiFunction;" ∈ zWs) (kk : EvX X d M mc ms (pc + 3) ls ((6, 0) :: st) kd m Q) : EvX X d M mc ms pc ls st kd m Q := by
  intro hm hl hs E p l e R s mi args below meth c0 H locs cells slots D A ad ca tys lsr Qs hF hR hX hZ hS hA hE hL hQ
  exact va_gets hF.1 hF.2.1 hE.2.2.2.2.2.1 hS hF.2.2.2.1 (hF.2.2.2.2.1 _ h1) (fun _ h => h) hd (kk hm hl (zoks_cons (zok_t (by decide)) hs) E p l e R s mi args below meth c0 H locs cells slots D A ad ca tys lsr Qs hF hR hX hZ hS hA hE hL hQ)
theorem EvX.sval {idx : Nat} {i : Int} (hd : decode M.2.1 pc = .ok (.getfield idx, 3)) (h1 : Cond.fieldLink M.1.cls idx "java/lang/String" "value" "[B" ∈ zWs) (hi : i.toNat < zsN) (kk : EvX X d M mc ms (pc + 3) ls ((5, i) :: st) kd m Q) : EvX X d M mc ms pc ls ((3, i) :: st) kd m Q := by
  intro hm hl hs E p l e R s mi args below meth c0 H locs cells slots D A ad ca tys lsr Qs hF hR hX hZ hS hA hE hL hQ
  exact vk_getf hF.1 hF.2.1 (hE.2.2.2.1.1 i.toNat hi).2.2.1 hS hF.2.2.2.1 (hF.2.2.2.2.1 _ h1) (fun _ h => h) hd (kk hm hl (zoks_cons (zok_t (by show (2 : Nat) < 5; decide)) (zoks_tail hs)) E p l e R s mi args below meth c0 H locs cells slots D A ad ca tys lsr Qs hF hR hX hZ hS hA hE hL hQ)
theorem EvX.scod {idx : Nat} {i : Int} (hd : decode M.2.1 pc = .ok (.getfield idx, 3)) (h1 : Cond.fieldLink M.1.cls idx "java/lang/String" "coder" "B" ∈ zWs) (hi : i.toNat < zsN) (kk : EvX X d M mc ms (pc + 3) ls ((0, 0) :: st) kd m Q) : EvX X d M mc ms pc ls ((3, i) :: st) kd m Q := by
  intro hm hl hs E p l e R s mi args below meth c0 H locs cells slots D A ad ca tys lsr Qs hF hR hX hZ hS hA hE hL hQ
  exact vk_getf hF.1 hF.2.1 (hE.2.2.2.1.1 i.toNat hi).2.1 hS hF.2.2.2.1 (hF.2.2.2.2.1 _ h1) (fun _ h => h) hd (kk hm hl (zoks_cons (zok_i zin_0) (zoks_tail hs)) E p l e R s mi args below meth c0 H locs cells slots D A ad ca tys lsr Qs hF hR hX hZ hS hA hE hL hQ)
theorem zslen_lt : ∀ i, i < zsN → zsLen.getD i 0 < 2 ^ 31 := by decide +kernel
theorem EvX.sleA {i : Int} (hd : decode M.2.1 pc = .ok (.arraylength, 1)) (hi : i.toNat < zsN) (kk : EvX X d M mc ms (pc + 1) ls ((0, zslen i) :: st) kd m Q) : EvX X d M mc ms pc ls ((5, i) :: st) kd m Q := by
  intro hm hl hs E p l e R s mi args below meth c0 H locs cells slots D A ad ca tys lsr Qs hF hR hX hZ hS hA hE hL hQ
  have hb := zslen_lt _ hi
  exact va_tlen hF.1 hF.2.1 (hE.2.2.2.1.1 i.toNat hi).2.2.2 hS (v := Int32.ofInt (zslen i)) rfl hd (kk hm hl (zoks_cons (zok_i (by simp only [zslen, zin32]; omega)) (zoks_tail hs)) E p l e R s mi args below meth c0 H locs cells slots D A ad ca tys lsr Qs hF hR hX hZ hS hA hE hL hQ)
theorem EvX.sbld {i k : Int} (hd : decode M.2.1 pc = .ok (.baload, 1)) (hi : i.toNat < zsN) (hk : 0 ≤ k ∧ k < zslen i) (kk : EvX X d M mc ms (pc + 1) ls ((0, zsbyte i k) :: st) kd m Q) : EvX X d M mc ms pc ls ((0, k) :: (5, i) :: st) kd m Q := by
  intro hm hl hs E p l e R s mi args below meth c0 H locs cells slots D A ad ca tys lsr Qs hF hR hX hZ hS hA hE hL hQ
  have hkk := zi0 hs
  have hc := zclamp hk.1 hkk
  have hn : (Int32.ofInt k).toNatClampNeg = k.toNat := by omega
  have K := kk hm hl (zoks_cons (zok_i (zin_toInt _)) (zoks_tail (zoks_tail hs))) E p l e R s mi args below meth c0 H locs cells slots D A ad ca tys lsr Qs hF hR hX hZ hS hA hE hL hQ
  refine va_tb hF.1 hF.2.1 (hE.2.2.2.1.1 i.toNat hi).2.2.2 hS (zvin hk.1 hkk hk.2) (v := .int ((zsByt.getD i.toNat []).getD (Int32.ofInt k).toNatClampNeg 0)) rfl hd ?_
  rw [hn]
  have ez : zc E ad (0, zsbyte i k) = .int ((zsByt.getD i.toNat []).getD k.toNat 0) := by
    show Value.int (Int32.ofInt (Int32.toInt _)) = _
    rw [zi_of]
  have K : W p l e R s mi args below meth c0 H locs cells slots Qs (F0 mi (pc + 1) lsr (zc E ad (0, zsbyte i k) :: zst E ad st)) := K
  rw [ez] at K
  exact K
/-- a method of a String constant is called -/
theorem EvX.callT {idx mc2 ms2 : Nat} {i : Int} {Q2 : ZQ} (hd : decode M.2.1 pc = .ok (.invokevirtual idx, 3)) (hlk : ZLk M.1.cls idx M2) (hok : ZOK M2) (hvi : ZVirt M2) (hpar : zpar M2 = some as.length) (hml : M2.2.2.1 ≤ 40) (hlen : (st.map zcat).sum ≤ 8) (hcl : M2.1.cls = "java/lang/String") (hi : i.toNat < zsN)
    (hc : Ct d M2 mc2 ms2 ((3, i) :: as) kd m Q2) (kk : ∀ (r : ZV) (kd' : ZK) (m' : ZM), Q2 r kd' m' → EvX X (d + 1) M mc ms (pc + 3) ls (zret r st) kd' m' Q) : EvX X (d + 1) M (mc + mc2) (ms + ms2) pc ls (as.reverse ++ (3, i) :: st) kd m Q := by
  intro hm hl hs E p l e R s mi args below meth c0 H locs cells slots D A ad ca tys lsr Qs hF hR hX hZ hS hA hE hL hQ
  have hs2 : ∀ v ∈ st, zok kd v := fun v hv => hs v (List.mem_append_right _ (List.mem_cons_of_mem _ hv))
  have has : ∀ v ∈ (3, i) :: as, zok kd v := fun v hv => by
    rcases List.mem_cons.mp hv with q | q
    · rw [q]; exact zok_s
    · exact hs v (List.mem_append_left _ (List.mem_reverse.mpr q))
  refine EvX.ret_of (aa := (Value.ref (E.1 i.toNat) :: zst E ad as).toArray) kk hl hs2 hF hR hX hZ hS hA hE hL hQ (zfree hZ hS hA) ?_
  have hM := hc hm has l E D ad ca tys H.size
  have hW : 2 * (F0 mi pc lsr (zst E ad (as.reverse ++ (3, i) :: st))).monitorRoom + ((zst E ad st).map fun v => v.category).sum ≤ 8 := by
    have := zroom (E := E) (ad := ad) (st := st)
    show 2 * 0 + _ ≤ 8
    omega
  have hrm : (zRoom d mc2 ms2).frames + 1 ≤ R.frames ∧ 8 + (M2.2.2.1 + 11) + (zRoom d mc2 ms2).locals ≤ R.locals := by
    refine ⟨by show d + 1 ≤ _; omega, by show 8 + (M2.2.2.1 + 11) + 60 * d ≤ _; omega⟩
  have hzl : (zst E ad as).length = as.length := by simp [zst]
  have hpr := zpre (as := (3, i) :: as) hZ hS hA hE
  have est : zst E ad (as.reverse ++ (3, i) :: st) = (zst E ad as).reverse ++ .ref (E.1 i.toNat) :: zst E ad st := by
    rw [zst_rev]; rfl
  rw [est]
  have hrc := vk_recv hE.2.2.2.1 hi hS
  rw [← hcl] at hrc
  rcases hlk with hlk | ⟨host, hlk⟩
  · exact va_runV (C := M2.1.cls) (b := E.1 i.toNat) (As := zst E ad as) (rest := zst E ad st) ⟨hF.1, hF.2.1, hF.2.2.1, hF.2.2.2.1, hF.2.2.2.2.1⟩ hM (cwV as.length hF.2.2.2.2.1 (zgood (fun w hw => by
      simp only [wsV, List.cons_append, List.nil_append, List.mem_cons] at hw
      rcases hw with rfl | rfl | rfl | rfl | rfl | hw
      · exact hlk
      · exact hvi.1
      · exact hvi.2
      · exact hok.2.1
      · exact hok.1
      · exact hw)) rfl rfl rfl ⟨rfl, hok.2.2.2.1, hok.2.2.2.2, hpar⟩ hrm) ⟨hpr.1, hrc, hpr.2⟩ rfl hzl hL.1 rfl hW hd ⟨by omega, by omega⟩
  · exact va_runVN (C := M2.1.cls) (b := E.1 i.toNat) (As := zst E ad as) (rest := zst E ad st) ⟨hF.1, hF.2.1, hF.2.2.1, hF.2.2.2.1, hF.2.2.2.2.1⟩ hM ⟨va_cnB as.length hF.2.2.2.2.1 (zgood (fun w hw => by
      rcases List.mem_cons.mp hw with rfl | hw
      · exact hok.1
      · exact hw)) rfl rfl rfl (hE.1 _ hlk) (hF.2.2.2.2.1 _ hok.2.1) ⟨hok.2.2.2.1, hok.2.2.2.2, hpar⟩ hrm, hF.2.2.2.2.1 _ hvi.1, hF.2.2.2.2.1 _ hvi.2⟩ ⟨hpr.1, hrc, hpr.2⟩ rfl hzl hL.1 rfl hW hd ⟨by omega, by omega⟩
theorem EvX.i2c {x : Int} (hd : decode M.2.1 pc = .ok (.i2c, 1)) (hx : 0 ≤ x ∧ x ≤ 65535) (k : EvX X d M mc ms (pc + 1) ls ((0, x) :: st) kd m Q) : EvX X d M mc ms pc ls ((0, x) :: st) kd m Q :=
  EvX.go (fun _ h => h) (fun {p l e R s mi args below meth c H locs cells slots Qs lsr E ad} _ hs hF _ hk => lv_i2c hF.1 hF.2.1 hd (v := Int32.ofInt x) (lg_i2c_word (by rw [zi_toInt (zi0 hs)]; omega) (by rw [zi_toInt (zi0 hs)]; omega)) hk) k
end EVS
