/-! every step of the abstract machine is a step of the machine -/
def am_ctx (b base : Nat) (aC : FieldType → ClassId) (D : va_G) (L : Nat) (xs : Nat → Int32) (p : Program) (s : State) (m : MethodId) (args : Array Value) (meth : Method) (c : Code) (M : am_M) : Prop :=
  p.tables.exec = Jvm.exec ∧ c.code = M.2.1 ∧ c.maxLocals = M.2.2.1 ∧ meth.sig.returnType = M.2.2.2.1 ∧ s.vm.findClass (am_own M.2.2.2.2.1) = some m.cls ∧ (∀ w ∈ am_tw, w.before args s = true) ∧ meth.locks = false ∧ meth.name = M.1.name ∧
  va_K D am_cl (am_tys aC) s ∧ va_X b L xs s s.heap ∧ b < base ∧ base ≤ s.heap.size ∧ (∀ q ∈ am_mn, va_Nw (am_nww q) s) ∧ va_AO "SpiteLine$Scene" s ∧ va_AO "SpiteLine$Image" s
theorem am_nx_spec {M : am_M} {j n len : Nat} {ins : Instr} {z : Nat × Nat × Value × List (Int32 × Nat)} (hins : am_ins M j = (ins, len, z)) (h : am_nx M j n = true) : len = n ∧ am_pc M (j + 1) = am_pc M j + n := by
  unfold am_nx at h
  rw [hins] at h
  exact of_decide_eq_true h
theorem am_jp_spec {M : am_M} {j t : Nat} {off : Int} (h : am_jp M j t off = true) : (am_pc M j : Int) + off = (am_pc M t : Int) := of_decide_eq_true h
theorem am_tsc_spec {M : am_M} {j d : Nat} {x : Int32} : ∀ (offs : List Int) (lo : Int) (sw : List (Int32 × Nat)), am_tsc M j offs lo sw = true → (x.toInt < lo ∨ lo + offs.length ≤ x.toInt → am_sw x d sw = d) ∧ (lo ≤ x.toInt → x.toInt < lo + offs.length → ∃ o, offs[(x.toInt - lo).toNat]? = some o ∧ (am_pc M j : Int) + o = (am_pc M (am_sw x d sw) : Int))
  | [], lo, [], _ => ⟨fun _ => rfl, fun h1 h2 => by simp at h2; omega⟩
  | [], lo, _ :: _, h => by simp [am_tsc] at h
  | _ :: _, lo, [], h => by simp [am_tsc] at h
  | o :: os, lo, (k, t) :: l, h => by
    simp only [am_tsc, Bool.and_eq_true, decide_eq_true_eq] at h
    obtain ⟨hk, hj, hr⟩ := h
    obtain ⟨r1, r2⟩ := am_tsc_spec (d := d) (x := x) os (lo + 1) l hr
    by_cases e : x = k
    · subst e
      refine ⟨fun q => ?_, fun _ _ => ⟨o, ?_, ?_⟩⟩
      · simp only [List.length_cons] at q
        omega
      · rw [hk, Int.sub_self]
        rfl
      · simp only [am_sw, if_true]
        exact am_jp_spec hj
    · have ne : ¬ x.toInt = lo := fun q => e (Int32.toInt_inj.mp (by rw [q, hk]))
      simp only [am_sw, if_neg e, List.length_cons]
      refine ⟨fun q => r1 (by omega), fun q1 q2 => ?_⟩
      obtain ⟨o', g1, g2⟩ := r2 (by omega) (by omega)
      refine ⟨o', ?_, g2⟩
      rw [show (x.toInt - lo).toNat = (x.toInt - (lo + 1)).toNat + 1 by omega, List.getElem?_cons_succ]
      exact g1
theorem am_lsc_spec {M : am_M} {j d : Nat} {dd : Int} {x : Int32} (hd : (am_pc M j : Int) + dd = (am_pc M d : Int)) : ∀ (ps : List (Int × Int)) (sw : List (Int32 × Nat)), am_lsc M j ps sw = true → (am_pc M j : Int) + Op.lookupswitch.offset ps dd x.toInt = (am_pc M (am_sw x d sw) : Int)
  | [], [], _ => hd
  | [], _ :: _, h => by simp [am_lsc] at h
  | _ :: _, [], h => by simp [am_lsc] at h
  | (q, o) :: os, (k, t) :: l, h => by
    simp only [am_lsc, Bool.and_eq_true, decide_eq_true_eq] at h
    obtain ⟨hk, hj, hr⟩ := h
    rw [Op.lookupswitch.offset_cons]
    by_cases e : x = k
    · subst e
      rw [if_pos hk.symm]
      simp only [am_sw, if_true]
      exact am_jp_spec hj
    · have ne : ¬ q = x.toInt := fun z => e (Int32.toInt_inj.mp (by rw [hk]; exact z.symm))
      rw [if_neg ne]
      simp only [am_sw, if_neg e]
      exact am_lsc_spec hd os l hr
theorem am_up_map {b base k v : Nat} (f : Nat → Option Nat) : (fun j => (va_up f k (some v) j).map (am_ad b base)) = va_up (fun j => (f j).map (am_ad b base)) k (some (am_ad b base v)) := by
  funext j
  unfold va_up
  by_cases e : j = k
  · rw [if_pos e, if_pos e]
    rfl
  · rw [if_neg e, if_neg e]
theorem am_dfl_len (ci : Nat) : (am_dfl ci).length = am_fn ci := by simp [am_dfl, am_fn]
theorem am_cv_dv (b base : Nat) (ty : FieldType) : am_cv b base (defaultValue ty) = defaultValue ty := by cases ty <;> rfl
theorem am_dfl_at {b base ci k : Nat} (hk : k < am_fn ci) : defaultValue (am_fty ci k) = vp_V ((am_dfl ci).map (am_cv b base)) k := by
  unfold vp_V
  rw [List.getD_eq_getElem?_getD, List.getElem?_map]
  have : (am_dfl ci)[k]? = some (defaultValue (am_fty ci k)) := by
    unfold am_dfl
    rw [List.getElem?_map, List.getElem?_range (show k < (am_cl.getD ci ("", (fun _ => ("", "", "", false)), 0)).2.2 from hk)]
    rfl
  rw [this]
  exact (am_cv_dv b base _).symm
theorem am_fresh {b base : Nat} {aC : FieldType → ClassId} {D : va_G} {h : am_H} {q : Nat} {x : va_E} {H1 : Heap} (hP1 : va_P D am_cl (am_ws b base aC h ++ [(q, x)]) H1) (hD1 : va_D (am_A base) (am_ws b base aC h ++ [(q, x)])) (hz : H1.size ≤ base + h.2.1 + 1) : q = base + h.2.1 := by
  have hl : (am_ws b base aC h ++ [(q, x)])[h.2.1]? = some (q, x) := by
    rw [List.getElem?_append_right (by rw [am_ws_len]; exact Nat.le_refl _), am_ws_len, Nat.sub_self]
    rfl
  have h1 : q < H1.size := (hP1 _ _ hl).lt
  have h2 : base ≤ q := hD1.2 _ _ hl
  rcases Nat.lt_or_ge q (base + h.2.1) with g | g
  · have hk : q - base < h.2.1 := by omega
    have ha : (am_ws b base aC h ++ [(q, x)])[q - base]? = some (base + (q - base), am_cc b base aC (h.1 (q - base + 1))) := by
      rw [List.getElem?_append_left (by rw [am_ws_len]; exact hk), am_ws_at hk]
    have := hD1.1 _ _ _ _ ha hl (by show base + (q - base) = q; omega)
    omega
  · omega
section AMS
variable {b base L : Nat} {xs : Nat → Int32} {aC : FieldType → ClassId} {D : va_G}
variable {p : Program} {l : Launch} {e : Env} {R : Room} {s : State} {m : MethodId} {args : Array Value} {below : List Frame} {meth : Method} {c : Code} {H : Heap} {locs : List Loc} {cells slots : Nat} {Q : State → Prop}
theorem am_fin1 {n w k : Nat} {g g' : JFrame} (kz : W p l e R s m args below meth c H locs (cells + (n + 1 - n)) (slots + (w + k - w)) Q g) (hg : g = g') : W p l e R s m args below meth c H locs (cells + 1) (slots + k) Q g' := by
  subst hg
  rw [Nat.add_sub_cancel_left, Nat.add_sub_cancel_left] at kz
  exact kz
set_option maxHeartbeats 1000000 in
theorem ss_iload {M : am_M} {j len a bb : Nat} {v : Value} {sw : List (Int32 × Nat)} {i : Nat} {ls st : List Value} {h h' : am_H} {F' : am_F} {LS : Array Slot} (hins : am_ins M j = (.iload i, len, a, bb, v, sw)) (hdec : decode M.2.1 (am_pc M j) = .ok (.iload i, len)) (hI : am_chkI M j (.iload i, len, a, bb, v, sw) = true) (C0 : am_ctx b base aC D L xs p s m args meth c M) (hkd : am_kind (.iload i, len, a, bb, v, sw) = 0) (es : am_step (.iload i, len, a, bb, v, sw) j ls st h = some (F', h')) (X : am_st b base aC D L xs M.2.2.1 s h H locs ls LS) (hcnt : s.heap.size + cells = base + h.2.1) (hcl : cells + (h'.2.1 - h.2.1) ≤ R.cells) (hsl : slots + (h'.2.2 - h.2.2) ≤ R.slots) (hfr : M.2.2.2.2.2.1.1 ≤ R.frames) (hlo : M.2.2.2.2.2.1.2 ≤ R.locals)
    (kk : (∀ (H1 : Heap) (locs1 : List Loc) (LS1 : Array Slot), am_st b base aC D L xs M.2.2.1 s h' H1 locs1 F'.2.1 LS1 → W p l e R s m args below meth c H1 locs1 (cells + (h'.2.1 - h.2.1)) (slots + (h'.2.2 - h.2.2)) Q (F0 m (am_pc M F'.1) LS1 (F'.2.2.map (am_cv b base))))) :
    W p l e R s m args below meth c H locs cells slots Q (F0 m (am_pc M j) LS (st.map (am_cv b base))) := by
  obtain ⟨hx, hb, hml, hr, hown, hts, hlocks, hname, hK, hX, hbb, hbs, hnw, haS, haI⟩ := C0
  obtain ⟨hR, hS0, hS, hlv, hlen⟩ := id X
  simp only [am_chkI, Bool.and_eq_true, decide_eq_true_eq] at hI
  obtain ⟨hnx, rfl⟩ := hI
  obtain ⟨rfl, hn⟩ := am_nx_spec hins hnx
  simp only [am_step] at es
  split at es
  · rename_i x hx1
    cases es
    refine lv_iload hx hb hdec (am_lp_at hlv hx1 (fun q => by cases q)) ?_
    exact am_fin0 (kk H locs LS X) (congrArg (fun z => F0 m z LS _) hn)
  · cases es
set_option maxHeartbeats 1000000 in
theorem ss_iload_n {M : am_M} {j len a bb : Nat} {v : Value} {sw : List (Int32 × Nat)} {i : Fin 4} {ls st : List Value} {h h' : am_H} {F' : am_F} {LS : Array Slot} (hins : am_ins M j = (.iload_n i, len, a, bb, v, sw)) (hdec : decode M.2.1 (am_pc M j) = .ok (.iload_n i, len)) (hI : am_chkI M j (.iload_n i, len, a, bb, v, sw) = true) (C0 : am_ctx b base aC D L xs p s m args meth c M) (hkd : am_kind (.iload_n i, len, a, bb, v, sw) = 0) (es : am_step (.iload_n i, len, a, bb, v, sw) j ls st h = some (F', h')) (X : am_st b base aC D L xs M.2.2.1 s h H locs ls LS) (hcnt : s.heap.size + cells = base + h.2.1) (hcl : cells + (h'.2.1 - h.2.1) ≤ R.cells) (hsl : slots + (h'.2.2 - h.2.2) ≤ R.slots) (hfr : M.2.2.2.2.2.1.1 ≤ R.frames) (hlo : M.2.2.2.2.2.1.2 ≤ R.locals)
    (kk : (∀ (H1 : Heap) (locs1 : List Loc) (LS1 : Array Slot), am_st b base aC D L xs M.2.2.1 s h' H1 locs1 F'.2.1 LS1 → W p l e R s m args below meth c H1 locs1 (cells + (h'.2.1 - h.2.1)) (slots + (h'.2.2 - h.2.2)) Q (F0 m (am_pc M F'.1) LS1 (F'.2.2.map (am_cv b base))))) :
    W p l e R s m args below meth c H locs cells slots Q (F0 m (am_pc M j) LS (st.map (am_cv b base))) := by
  obtain ⟨hx, hb, hml, hr, hown, hts, hlocks, hname, hK, hX, hbb, hbs, hnw, haS, haI⟩ := C0
  obtain ⟨hR, hS0, hS, hlv, hlen⟩ := id X
  simp only [am_chkI, Bool.and_eq_true, decide_eq_true_eq] at hI
  obtain ⟨hnx, rfl⟩ := hI
  obtain ⟨rfl, hn⟩ := am_nx_spec hins hnx
  simp only [am_step] at es
  split at es
  · rename_i x hx1
    cases es
    refine lv_iload_n hx hb hdec rfl (am_lp_at hlv hx1 (fun q => by cases q)) ?_
    exact am_fin0 (kk H locs LS X) (congrArg (fun z => F0 m z LS _) hn)
  · cases es
set_option maxHeartbeats 1000000 in
theorem ss_aload {M : am_M} {j len a bb : Nat} {v : Value} {sw : List (Int32 × Nat)} {i : Nat} {ls st : List Value} {h h' : am_H} {F' : am_F} {LS : Array Slot} (hins : am_ins M j = (.aload i, len, a, bb, v, sw)) (hdec : decode M.2.1 (am_pc M j) = .ok (.aload i, len)) (hI : am_chkI M j (.aload i, len, a, bb, v, sw) = true) (C0 : am_ctx b base aC D L xs p s m args meth c M) (hkd : am_kind (.aload i, len, a, bb, v, sw) = 0) (es : am_step (.aload i, len, a, bb, v, sw) j ls st h = some (F', h')) (X : am_st b base aC D L xs M.2.2.1 s h H locs ls LS) (hcnt : s.heap.size + cells = base + h.2.1) (hcl : cells + (h'.2.1 - h.2.1) ≤ R.cells) (hsl : slots + (h'.2.2 - h.2.2) ≤ R.slots) (hfr : M.2.2.2.2.2.1.1 ≤ R.frames) (hlo : M.2.2.2.2.2.1.2 ≤ R.locals)
    (kk : (∀ (H1 : Heap) (locs1 : List Loc) (LS1 : Array Slot), am_st b base aC D L xs M.2.2.1 s h' H1 locs1 F'.2.1 LS1 → W p l e R s m args below meth c H1 locs1 (cells + (h'.2.1 - h.2.1)) (slots + (h'.2.2 - h.2.2)) Q (F0 m (am_pc M F'.1) LS1 (F'.2.2.map (am_cv b base))))) :
    W p l e R s m args below meth c H locs cells slots Q (F0 m (am_pc M j) LS (st.map (am_cv b base))) := by
  obtain ⟨hx, hb, hml, hr, hown, hts, hlocks, hname, hK, hX, hbb, hbs, hnw, haS, haI⟩ := C0
  obtain ⟨hR, hS0, hS, hlv, hlen⟩ := id X
  simp only [am_chkI, Bool.and_eq_true, decide_eq_true_eq] at hI
  obtain ⟨hnx, rfl⟩ := hI
  obtain ⟨rfl, hn⟩ := am_nx_spec hins hnx
  simp only [am_step] at es
  split at es
  · rename_i x hx1
    cases es
    refine lv_aload hx hb hdec (am_lp_at hlv hx1 (fun q => by cases q)) ?_
    exact am_fin0 (kk H locs LS X) (congrArg (fun z => F0 m z LS _) hn)
  · cases es
set_option maxHeartbeats 1000000 in
theorem ss_aload_n {M : am_M} {j len a bb : Nat} {v : Value} {sw : List (Int32 × Nat)} {i : Fin 4} {ls st : List Value} {h h' : am_H} {F' : am_F} {LS : Array Slot} (hins : am_ins M j = (.aload_n i, len, a, bb, v, sw)) (hdec : decode M.2.1 (am_pc M j) = .ok (.aload_n i, len)) (hI : am_chkI M j (.aload_n i, len, a, bb, v, sw) = true) (C0 : am_ctx b base aC D L xs p s m args meth c M) (hkd : am_kind (.aload_n i, len, a, bb, v, sw) = 0) (es : am_step (.aload_n i, len, a, bb, v, sw) j ls st h = some (F', h')) (X : am_st b base aC D L xs M.2.2.1 s h H locs ls LS) (hcnt : s.heap.size + cells = base + h.2.1) (hcl : cells + (h'.2.1 - h.2.1) ≤ R.cells) (hsl : slots + (h'.2.2 - h.2.2) ≤ R.slots) (hfr : M.2.2.2.2.2.1.1 ≤ R.frames) (hlo : M.2.2.2.2.2.1.2 ≤ R.locals)
    (kk : (∀ (H1 : Heap) (locs1 : List Loc) (LS1 : Array Slot), am_st b base aC D L xs M.2.2.1 s h' H1 locs1 F'.2.1 LS1 → W p l e R s m args below meth c H1 locs1 (cells + (h'.2.1 - h.2.1)) (slots + (h'.2.2 - h.2.2)) Q (F0 m (am_pc M F'.1) LS1 (F'.2.2.map (am_cv b base))))) :
    W p l e R s m args below meth c H locs cells slots Q (F0 m (am_pc M j) LS (st.map (am_cv b base))) := by
  obtain ⟨hx, hb, hml, hr, hown, hts, hlocks, hname, hK, hX, hbb, hbs, hnw, haS, haI⟩ := C0
  obtain ⟨hR, hS0, hS, hlv, hlen⟩ := id X
  simp only [am_chkI, Bool.and_eq_true, decide_eq_true_eq] at hI
  obtain ⟨hnx, rfl⟩ := hI
  obtain ⟨rfl, hn⟩ := am_nx_spec hins hnx
  simp only [am_step] at es
  split at es
  · rename_i x hx1
    cases es
    refine lv_aload_n hx hb hdec rfl (am_lp_at hlv hx1 (fun q => by cases q)) ?_
    exact am_fin0 (kk H locs LS X) (congrArg (fun z => F0 m z LS _) hn)
  · cases es
set_option maxHeartbeats 1000000 in
theorem ss_lload {M : am_M} {j len a bb : Nat} {v : Value} {sw : List (Int32 × Nat)} {i : Nat} {ls st : List Value} {h h' : am_H} {F' : am_F} {LS : Array Slot} (hins : am_ins M j = (.lload i, len, a, bb, v, sw)) (hdec : decode M.2.1 (am_pc M j) = .ok (.lload i, len)) (hI : am_chkI M j (.lload i, len, a, bb, v, sw) = true) (C0 : am_ctx b base aC D L xs p s m args meth c M) (hkd : am_kind (.lload i, len, a, bb, v, sw) = 0) (es : am_step (.lload i, len, a, bb, v, sw) j ls st h = some (F', h')) (X : am_st b base aC D L xs M.2.2.1 s h H locs ls LS) (hcnt : s.heap.size + cells = base + h.2.1) (hcl : cells + (h'.2.1 - h.2.1) ≤ R.cells) (hsl : slots + (h'.2.2 - h.2.2) ≤ R.slots) (hfr : M.2.2.2.2.2.1.1 ≤ R.frames) (hlo : M.2.2.2.2.2.1.2 ≤ R.locals)
    (kk : (∀ (H1 : Heap) (locs1 : List Loc) (LS1 : Array Slot), am_st b base aC D L xs M.2.2.1 s h' H1 locs1 F'.2.1 LS1 → W p l e R s m args below meth c H1 locs1 (cells + (h'.2.1 - h.2.1)) (slots + (h'.2.2 - h.2.2)) Q (F0 m (am_pc M F'.1) LS1 (F'.2.2.map (am_cv b base))))) :
    W p l e R s m args below meth c H locs cells slots Q (F0 m (am_pc M j) LS (st.map (am_cv b base))) := by
  obtain ⟨hx, hb, hml, hr, hown, hts, hlocks, hname, hK, hX, hbb, hbs, hnw, haS, haI⟩ := C0
  obtain ⟨hR, hS0, hS, hlv, hlen⟩ := id X
  simp only [am_chkI, Bool.and_eq_true, decide_eq_true_eq] at hI
  obtain ⟨hnx, rfl⟩ := hI
  obtain ⟨rfl, hn⟩ := am_nx_spec hins hnx
  simp only [am_step] at es
  split at es
  · rename_i x hx1
    cases es
    refine lv_lload hx hb hdec (am_lp_at hlv hx1 (fun q => by cases q)) ?_
    exact am_fin0 (kk H locs LS X) (congrArg (fun z => F0 m z LS _) hn)
  · cases es
set_option maxHeartbeats 1000000 in
theorem ss_lload_n {M : am_M} {j len a bb : Nat} {v : Value} {sw : List (Int32 × Nat)} {i : Fin 4} {ls st : List Value} {h h' : am_H} {F' : am_F} {LS : Array Slot} (hins : am_ins M j = (.lload_n i, len, a, bb, v, sw)) (hdec : decode M.2.1 (am_pc M j) = .ok (.lload_n i, len)) (hI : am_chkI M j (.lload_n i, len, a, bb, v, sw) = true) (C0 : am_ctx b base aC D L xs p s m args meth c M) (hkd : am_kind (.lload_n i, len, a, bb, v, sw) = 0) (es : am_step (.lload_n i, len, a, bb, v, sw) j ls st h = some (F', h')) (X : am_st b base aC D L xs M.2.2.1 s h H locs ls LS) (hcnt : s.heap.size + cells = base + h.2.1) (hcl : cells + (h'.2.1 - h.2.1) ≤ R.cells) (hsl : slots + (h'.2.2 - h.2.2) ≤ R.slots) (hfr : M.2.2.2.2.2.1.1 ≤ R.frames) (hlo : M.2.2.2.2.2.1.2 ≤ R.locals)
    (kk : (∀ (H1 : Heap) (locs1 : List Loc) (LS1 : Array Slot), am_st b base aC D L xs M.2.2.1 s h' H1 locs1 F'.2.1 LS1 → W p l e R s m args below meth c H1 locs1 (cells + (h'.2.1 - h.2.1)) (slots + (h'.2.2 - h.2.2)) Q (F0 m (am_pc M F'.1) LS1 (F'.2.2.map (am_cv b base))))) :
    W p l e R s m args below meth c H locs cells slots Q (F0 m (am_pc M j) LS (st.map (am_cv b base))) := by
  obtain ⟨hx, hb, hml, hr, hown, hts, hlocks, hname, hK, hX, hbb, hbs, hnw, haS, haI⟩ := C0
  obtain ⟨hR, hS0, hS, hlv, hlen⟩ := id X
  simp only [am_chkI, Bool.and_eq_true, decide_eq_true_eq] at hI
  obtain ⟨hnx, rfl⟩ := hI
  obtain ⟨rfl, hn⟩ := am_nx_spec hins hnx
  simp only [am_step] at es
  split at es
  · rename_i x hx1
    cases es
    refine lv_lload_n hx hb hdec rfl (am_lp_at hlv hx1 (fun q => by cases q)) ?_
    exact am_fin0 (kk H locs LS X) (congrArg (fun z => F0 m z LS _) hn)
  · cases es
set_option maxHeartbeats 1000000 in
theorem ss_istore {M : am_M} {j len a bb : Nat} {v : Value} {sw : List (Int32 × Nat)} {i : Nat} {ls st : List Value} {h h' : am_H} {F' : am_F} {LS : Array Slot} (hins : am_ins M j = (.istore i, len, a, bb, v, sw)) (hdec : decode M.2.1 (am_pc M j) = .ok (.istore i, len)) (hI : am_chkI M j (.istore i, len, a, bb, v, sw) = true) (C0 : am_ctx b base aC D L xs p s m args meth c M) (hkd : am_kind (.istore i, len, a, bb, v, sw) = 0) (es : am_step (.istore i, len, a, bb, v, sw) j ls st h = some (F', h')) (X : am_st b base aC D L xs M.2.2.1 s h H locs ls LS) (hcnt : s.heap.size + cells = base + h.2.1) (hcl : cells + (h'.2.1 - h.2.1) ≤ R.cells) (hsl : slots + (h'.2.2 - h.2.2) ≤ R.slots) (hfr : M.2.2.2.2.2.1.1 ≤ R.frames) (hlo : M.2.2.2.2.2.1.2 ≤ R.locals)
    (kk : (∀ (H1 : Heap) (locs1 : List Loc) (LS1 : Array Slot), am_st b base aC D L xs M.2.2.1 s h' H1 locs1 F'.2.1 LS1 → W p l e R s m args below meth c H1 locs1 (cells + (h'.2.1 - h.2.1)) (slots + (h'.2.2 - h.2.2)) Q (F0 m (am_pc M F'.1) LS1 (F'.2.2.map (am_cv b base))))) :
    W p l e R s m args below meth c H locs cells slots Q (F0 m (am_pc M j) LS (st.map (am_cv b base))) := by
  obtain ⟨hx, hb, hml, hr, hown, hts, hlocks, hname, hK, hX, hbb, hbs, hnw, haS, haI⟩ := C0
  obtain ⟨hR, hS0, hS, hlv, hlen⟩ := id X
  simp only [am_chkI, Bool.and_eq_true, decide_eq_true_eq] at hI
  obtain ⟨hnx, rfl⟩ := hI
  obtain ⟨rfl, hn⟩ := am_nx_spec hins hnx
  simp only [am_step] at es
  obtain ⟨x, r, rfl, es2⟩ := am_i1_some es
  clear es
  have es := es2
  clear es2
  unfold am_store at es
  split at es
  · rename_i hc1
    cases es
    refine lv_istore hx hb hdec hlv hc1.2 rfl (fun LS1 hl1 => ?_)
    exact am_fin0 (kk H locs LS1 ⟨hR, hS0, hS, am_lp_set1 (v := .int x) hl1 hc1.2 hc1.1, by rw [List.length_set]; exact hlen⟩) (congrArg (fun z => F0 m z LS1 _) hn)
  · cases es
set_option maxHeartbeats 1000000 in
theorem ss_istore_n {M : am_M} {j len a bb : Nat} {v : Value} {sw : List (Int32 × Nat)} {i : Fin 4} {ls st : List Value} {h h' : am_H} {F' : am_F} {LS : Array Slot} (hins : am_ins M j = (.istore_n i, len, a, bb, v, sw)) (hdec : decode M.2.1 (am_pc M j) = .ok (.istore_n i, len)) (hI : am_chkI M j (.istore_n i, len, a, bb, v, sw) = true) (C0 : am_ctx b base aC D L xs p s m args meth c M) (hkd : am_kind (.istore_n i, len, a, bb, v, sw) = 0) (es : am_step (.istore_n i, len, a, bb, v, sw) j ls st h = some (F', h')) (X : am_st b base aC D L xs M.2.2.1 s h H locs ls LS) (hcnt : s.heap.size + cells = base + h.2.1) (hcl : cells + (h'.2.1 - h.2.1) ≤ R.cells) (hsl : slots + (h'.2.2 - h.2.2) ≤ R.slots) (hfr : M.2.2.2.2.2.1.1 ≤ R.frames) (hlo : M.2.2.2.2.2.1.2 ≤ R.locals)
    (kk : (∀ (H1 : Heap) (locs1 : List Loc) (LS1 : Array Slot), am_st b base aC D L xs M.2.2.1 s h' H1 locs1 F'.2.1 LS1 → W p l e R s m args below meth c H1 locs1 (cells + (h'.2.1 - h.2.1)) (slots + (h'.2.2 - h.2.2)) Q (F0 m (am_pc M F'.1) LS1 (F'.2.2.map (am_cv b base))))) :
    W p l e R s m args below meth c H locs cells slots Q (F0 m (am_pc M j) LS (st.map (am_cv b base))) := by
  obtain ⟨hx, hb, hml, hr, hown, hts, hlocks, hname, hK, hX, hbb, hbs, hnw, haS, haI⟩ := C0
  obtain ⟨hR, hS0, hS, hlv, hlen⟩ := id X
  simp only [am_chkI, Bool.and_eq_true, decide_eq_true_eq] at hI
  obtain ⟨hnx, rfl⟩ := hI
  obtain ⟨rfl, hn⟩ := am_nx_spec hins hnx
  simp only [am_step] at es
  obtain ⟨x, r, rfl, es2⟩ := am_i1_some es
  clear es
  have es := es2
  clear es2
  unfold am_store at es
  split at es
  · rename_i hc1
    cases es
    refine lv_istore_n hx hb hdec rfl hlv hc1.2 rfl (fun LS1 hl1 => ?_)
    exact am_fin0 (kk H locs LS1 ⟨hR, hS0, hS, am_lp_set1 (v := .int x) hl1 hc1.2 hc1.1, by rw [List.length_set]; exact hlen⟩) (congrArg (fun z => F0 m z LS1 _) hn)
  · cases es
set_option maxHeartbeats 1000000 in
theorem ss_astore_n {M : am_M} {j len a bb : Nat} {v : Value} {sw : List (Int32 × Nat)} {i : Fin 4} {ls st : List Value} {h h' : am_H} {F' : am_F} {LS : Array Slot} (hins : am_ins M j = (.astore_n i, len, a, bb, v, sw)) (hdec : decode M.2.1 (am_pc M j) = .ok (.astore_n i, len)) (hI : am_chkI M j (.astore_n i, len, a, bb, v, sw) = true) (C0 : am_ctx b base aC D L xs p s m args meth c M) (hkd : am_kind (.astore_n i, len, a, bb, v, sw) = 0) (es : am_step (.astore_n i, len, a, bb, v, sw) j ls st h = some (F', h')) (X : am_st b base aC D L xs M.2.2.1 s h H locs ls LS) (hcnt : s.heap.size + cells = base + h.2.1) (hcl : cells + (h'.2.1 - h.2.1) ≤ R.cells) (hsl : slots + (h'.2.2 - h.2.2) ≤ R.slots) (hfr : M.2.2.2.2.2.1.1 ≤ R.frames) (hlo : M.2.2.2.2.2.1.2 ≤ R.locals)
    (kk : (∀ (H1 : Heap) (locs1 : List Loc) (LS1 : Array Slot), am_st b base aC D L xs M.2.2.1 s h' H1 locs1 F'.2.1 LS1 → W p l e R s m args below meth c H1 locs1 (cells + (h'.2.1 - h.2.1)) (slots + (h'.2.2 - h.2.2)) Q (F0 m (am_pc M F'.1) LS1 (F'.2.2.map (am_cv b base))))) :
    W p l e R s m args below meth c H locs cells slots Q (F0 m (am_pc M j) LS (st.map (am_cv b base))) := by
  obtain ⟨hx, hb, hml, hr, hown, hts, hlocks, hname, hK, hX, hbb, hbs, hnw, haS, haI⟩ := C0
  obtain ⟨hR, hS0, hS, hlv, hlen⟩ := id X
  simp only [am_chkI, Bool.and_eq_true, decide_eq_true_eq] at hI
  obtain ⟨hnx, rfl⟩ := hI
  obtain ⟨rfl, hn⟩ := am_nx_spec hins hnx
  simp only [am_step] at es
  obtain ⟨x, r, rfl, es2⟩ := am_r1_some es
  clear es
  have es := es2
  clear es2
  unfold am_store at es
  split at es
  · rename_i hc1
    cases es
    refine lv_astore_n hx hb hdec rfl hlv hc1.2 rfl (fun LS1 hl1 => ?_)
    exact am_fin0 (kk H locs LS1 ⟨hR, hS0, hS, am_lp_set1 (v := .ref x) hl1 hc1.2 hc1.1, by rw [List.length_set]; exact hlen⟩) (congrArg (fun z => F0 m z LS1 _) hn)
  · cases es
set_option maxHeartbeats 1000000 in
theorem ss_lstore_n {M : am_M} {j len a bb : Nat} {v : Value} {sw : List (Int32 × Nat)} {i : Fin 4} {ls st : List Value} {h h' : am_H} {F' : am_F} {LS : Array Slot} (hins : am_ins M j = (.lstore_n i, len, a, bb, v, sw)) (hdec : decode M.2.1 (am_pc M j) = .ok (.lstore_n i, len)) (hI : am_chkI M j (.lstore_n i, len, a, bb, v, sw) = true) (C0 : am_ctx b base aC D L xs p s m args meth c M) (hkd : am_kind (.lstore_n i, len, a, bb, v, sw) = 0) (es : am_step (.lstore_n i, len, a, bb, v, sw) j ls st h = some (F', h')) (X : am_st b base aC D L xs M.2.2.1 s h H locs ls LS) (hcnt : s.heap.size + cells = base + h.2.1) (hcl : cells + (h'.2.1 - h.2.1) ≤ R.cells) (hsl : slots + (h'.2.2 - h.2.2) ≤ R.slots) (hfr : M.2.2.2.2.2.1.1 ≤ R.frames) (hlo : M.2.2.2.2.2.1.2 ≤ R.locals)
    (kk : (∀ (H1 : Heap) (locs1 : List Loc) (LS1 : Array Slot), am_st b base aC D L xs M.2.2.1 s h' H1 locs1 F'.2.1 LS1 → W p l e R s m args below meth c H1 locs1 (cells + (h'.2.1 - h.2.1)) (slots + (h'.2.2 - h.2.2)) Q (F0 m (am_pc M F'.1) LS1 (F'.2.2.map (am_cv b base))))) :
    W p l e R s m args below meth c H locs cells slots Q (F0 m (am_pc M j) LS (st.map (am_cv b base))) := by
  obtain ⟨hx, hb, hml, hr, hown, hts, hlocks, hname, hK, hX, hbb, hbs, hnw, haS, haI⟩ := C0
  obtain ⟨hR, hS0, hS, hlv, hlen⟩ := id X
  simp only [am_chkI, Bool.and_eq_true, decide_eq_true_eq] at hI
  obtain ⟨hnx, rfl⟩ := hI
  obtain ⟨rfl, hn⟩ := am_nx_spec hins hnx
  simp only [am_step] at es
  obtain ⟨x, r, rfl, es2⟩ := am_l1_some es
  clear es
  have es := es2
  clear es2
  split at es
  · rename_i hc1
    cases es
    refine lv_lstore_n hx hb hdec rfl hlv hc1.2 rfl (fun LS1 hl1 => ?_)
    exact am_fin0 (kk H locs LS1 ⟨hR, hS0, hS, am_lp_set2 (v := .long x) hl1 hc1.2 hc1.1, by rw [List.length_set, List.length_set]; exact hlen⟩) (congrArg (fun z => F0 m z LS1 _) hn)
  · cases es
set_option maxHeartbeats 1000000 in
theorem ss_lstore {M : am_M} {j len a bb : Nat} {v : Value} {sw : List (Int32 × Nat)} {i : Nat} {ls st : List Value} {h h' : am_H} {F' : am_F} {LS : Array Slot} (hins : am_ins M j = (.lstore i, len, a, bb, v, sw)) (hdec : decode M.2.1 (am_pc M j) = .ok (.lstore i, len)) (hI : am_chkI M j (.lstore i, len, a, bb, v, sw) = true) (C0 : am_ctx b base aC D L xs p s m args meth c M) (hkd : am_kind (.lstore i, len, a, bb, v, sw) = 0) (es : am_step (.lstore i, len, a, bb, v, sw) j ls st h = some (F', h')) (X : am_st b base aC D L xs M.2.2.1 s h H locs ls LS) (hcnt : s.heap.size + cells = base + h.2.1) (hcl : cells + (h'.2.1 - h.2.1) ≤ R.cells) (hsl : slots + (h'.2.2 - h.2.2) ≤ R.slots) (hfr : M.2.2.2.2.2.1.1 ≤ R.frames) (hlo : M.2.2.2.2.2.1.2 ≤ R.locals)
    (kk : (∀ (H1 : Heap) (locs1 : List Loc) (LS1 : Array Slot), am_st b base aC D L xs M.2.2.1 s h' H1 locs1 F'.2.1 LS1 → W p l e R s m args below meth c H1 locs1 (cells + (h'.2.1 - h.2.1)) (slots + (h'.2.2 - h.2.2)) Q (F0 m (am_pc M F'.1) LS1 (F'.2.2.map (am_cv b base))))) :
    W p l e R s m args below meth c H locs cells slots Q (F0 m (am_pc M j) LS (st.map (am_cv b base))) := by
  obtain ⟨hx, hb, hml, hr, hown, hts, hlocks, hname, hK, hX, hbb, hbs, hnw, haS, haI⟩ := C0
  obtain ⟨hR, hS0, hS, hlv, hlen⟩ := id X
  simp only [am_chkI, Bool.and_eq_true, decide_eq_true_eq] at hI
  obtain ⟨hnx, rfl⟩ := hI
  obtain ⟨rfl, hn⟩ := am_nx_spec hins hnx
  simp only [am_step] at es
  obtain ⟨x, r, rfl, es2⟩ := am_l1_some es
  clear es
  have es := es2
  clear es2
  split at es
  · rename_i hc1
    cases es
    refine lv_lstore hx hb hdec hlv hc1.2 rfl (fun LS1 hl1 => ?_)
    exact am_fin0 (kk H locs LS1 ⟨hR, hS0, hS, am_lp_set2 (v := .long x) hl1 hc1.2 hc1.1, by rw [List.length_set, List.length_set]; exact hlen⟩) (congrArg (fun z => F0 m z LS1 _) hn)
  · cases es
set_option maxHeartbeats 1000000 in
theorem ss_iinc {M : am_M} {j len a bb : Nat} {v : Value} {sw : List (Int32 × Nat)} {i : Nat} {n : Int} {ls st : List Value} {h h' : am_H} {F' : am_F} {LS : Array Slot} (hins : am_ins M j = (.iinc i n, len, a, bb, v, sw)) (hdec : decode M.2.1 (am_pc M j) = .ok (.iinc i n, len)) (hI : am_chkI M j (.iinc i n, len, a, bb, v, sw) = true) (C0 : am_ctx b base aC D L xs p s m args meth c M) (hkd : am_kind (.iinc i n, len, a, bb, v, sw) = 0) (es : am_step (.iinc i n, len, a, bb, v, sw) j ls st h = some (F', h')) (X : am_st b base aC D L xs M.2.2.1 s h H locs ls LS) (hcnt : s.heap.size + cells = base + h.2.1) (hcl : cells + (h'.2.1 - h.2.1) ≤ R.cells) (hsl : slots + (h'.2.2 - h.2.2) ≤ R.slots) (hfr : M.2.2.2.2.2.1.1 ≤ R.frames) (hlo : M.2.2.2.2.2.1.2 ≤ R.locals)
    (kk : (∀ (H1 : Heap) (locs1 : List Loc) (LS1 : Array Slot), am_st b base aC D L xs M.2.2.1 s h' H1 locs1 F'.2.1 LS1 → W p l e R s m args below meth c H1 locs1 (cells + (h'.2.1 - h.2.1)) (slots + (h'.2.2 - h.2.2)) Q (F0 m (am_pc M F'.1) LS1 (F'.2.2.map (am_cv b base))))) :
    W p l e R s m args below meth c H locs cells slots Q (F0 m (am_pc M j) LS (st.map (am_cv b base))) := by
  obtain ⟨hx, hb, hml, hr, hown, hts, hlocks, hname, hK, hX, hbb, hbs, hnw, haS, haI⟩ := C0
  obtain ⟨hR, hS0, hS, hlv, hlen⟩ := id X
  simp only [am_chkI, Bool.and_eq_true, decide_eq_true_eq] at hI
  obtain ⟨hnx, rfl, rfl⟩ := hI
  obtain ⟨rfl, hn⟩ := am_nx_spec hins hnx
  simp only [am_step] at es
  split at es
  · rename_i x cc hx1 hx2
    cases hx2
    unfold am_store at es
    split at es
    · rename_i hc1
      cases es
      obtain ⟨k, hk⟩ := List.getElem?_of_mem ((am_lp_mem (b := b) (base := base) (ls := ls) (q := (a, .int x))).mpr ⟨hc1.2, by rw [hx1]; exact fun q => Value.noConfusion q, by rw [hx1]; rfl⟩)
      refine lv_iinc hx hb hdec hlv hk rfl hc1.2 rfl (fun LS1 hl1 => ?_)
      exact am_fin0 (kk H locs LS1 ⟨hR, hS0, hS, am_lp_set1 (v := .int (x + Int32.ofInt n)) hl1 hc1.2 hc1.1, by rw [List.length_set]; exact hlen⟩) (congrArg (fun z => F0 m z LS1 _) hn)
    · cases es
  · cases es
set_option maxHeartbeats 1000000 in
theorem ss_iconst {M : am_M} {j len a bb : Nat} {v : Value} {sw : List (Int32 × Nat)} {n : Int} {ls st : List Value} {h h' : am_H} {F' : am_F} {LS : Array Slot} (hins : am_ins M j = (.iconst n, len, a, bb, v, sw)) (hdec : decode M.2.1 (am_pc M j) = .ok (.iconst n, len)) (hI : am_chkI M j (.iconst n, len, a, bb, v, sw) = true) (C0 : am_ctx b base aC D L xs p s m args meth c M) (hkd : am_kind (.iconst n, len, a, bb, v, sw) = 0) (es : am_step (.iconst n, len, a, bb, v, sw) j ls st h = some (F', h')) (X : am_st b base aC D L xs M.2.2.1 s h H locs ls LS) (hcnt : s.heap.size + cells = base + h.2.1) (hcl : cells + (h'.2.1 - h.2.1) ≤ R.cells) (hsl : slots + (h'.2.2 - h.2.2) ≤ R.slots) (hfr : M.2.2.2.2.2.1.1 ≤ R.frames) (hlo : M.2.2.2.2.2.1.2 ≤ R.locals)
    (kk : (∀ (H1 : Heap) (locs1 : List Loc) (LS1 : Array Slot), am_st b base aC D L xs M.2.2.1 s h' H1 locs1 F'.2.1 LS1 → W p l e R s m args below meth c H1 locs1 (cells + (h'.2.1 - h.2.1)) (slots + (h'.2.2 - h.2.2)) Q (F0 m (am_pc M F'.1) LS1 (F'.2.2.map (am_cv b base))))) :
    W p l e R s m args below meth c H locs cells slots Q (F0 m (am_pc M j) LS (st.map (am_cv b base))) := by
  obtain ⟨hx, hb, hml, hr, hown, hts, hlocks, hname, hK, hX, hbb, hbs, hnw, haS, haI⟩ := C0
  obtain ⟨hR, hS0, hS, hlv, hlen⟩ := id X
  simp only [am_chkI, Bool.and_eq_true, decide_eq_true_eq] at hI
  obtain ⟨hnx, rfl⟩ := hI
  obtain ⟨rfl, hn⟩ := am_nx_spec hins hnx
  cases es
  refine lv_iconst hx hb hdec rfl ?_
  exact am_fin0 (kk H locs LS X) (congrArg (fun z => F0 m z LS _) hn)
set_option maxHeartbeats 1000000 in
theorem ss_bipush {M : am_M} {j len a bb : Nat} {v : Value} {sw : List (Int32 × Nat)} {n : Int} {ls st : List Value} {h h' : am_H} {F' : am_F} {LS : Array Slot} (hins : am_ins M j = (.bipush n, len, a, bb, v, sw)) (hdec : decode M.2.1 (am_pc M j) = .ok (.bipush n, len)) (hI : am_chkI M j (.bipush n, len, a, bb, v, sw) = true) (C0 : am_ctx b base aC D L xs p s m args meth c M) (hkd : am_kind (.bipush n, len, a, bb, v, sw) = 0) (es : am_step (.bipush n, len, a, bb, v, sw) j ls st h = some (F', h')) (X : am_st b base aC D L xs M.2.2.1 s h H locs ls LS) (hcnt : s.heap.size + cells = base + h.2.1) (hcl : cells + (h'.2.1 - h.2.1) ≤ R.cells) (hsl : slots + (h'.2.2 - h.2.2) ≤ R.slots) (hfr : M.2.2.2.2.2.1.1 ≤ R.frames) (hlo : M.2.2.2.2.2.1.2 ≤ R.locals)
    (kk : (∀ (H1 : Heap) (locs1 : List Loc) (LS1 : Array Slot), am_st b base aC D L xs M.2.2.1 s h' H1 locs1 F'.2.1 LS1 → W p l e R s m args below meth c H1 locs1 (cells + (h'.2.1 - h.2.1)) (slots + (h'.2.2 - h.2.2)) Q (F0 m (am_pc M F'.1) LS1 (F'.2.2.map (am_cv b base))))) :
    W p l e R s m args below meth c H locs cells slots Q (F0 m (am_pc M j) LS (st.map (am_cv b base))) := by
  obtain ⟨hx, hb, hml, hr, hown, hts, hlocks, hname, hK, hX, hbb, hbs, hnw, haS, haI⟩ := C0
  obtain ⟨hR, hS0, hS, hlv, hlen⟩ := id X
  simp only [am_chkI, Bool.and_eq_true, decide_eq_true_eq] at hI
  obtain ⟨hnx, rfl⟩ := hI
  obtain ⟨rfl, hn⟩ := am_nx_spec hins hnx
  cases es
  refine lv_bipush hx hb hdec rfl ?_
  exact am_fin0 (kk H locs LS X) (congrArg (fun z => F0 m z LS _) hn)
set_option maxHeartbeats 1000000 in
theorem ss_sipush {M : am_M} {j len a bb : Nat} {v : Value} {sw : List (Int32 × Nat)} {n : Int} {ls st : List Value} {h h' : am_H} {F' : am_F} {LS : Array Slot} (hins : am_ins M j = (.sipush n, len, a, bb, v, sw)) (hdec : decode M.2.1 (am_pc M j) = .ok (.sipush n, len)) (hI : am_chkI M j (.sipush n, len, a, bb, v, sw) = true) (C0 : am_ctx b base aC D L xs p s m args meth c M) (hkd : am_kind (.sipush n, len, a, bb, v, sw) = 0) (es : am_step (.sipush n, len, a, bb, v, sw) j ls st h = some (F', h')) (X : am_st b base aC D L xs M.2.2.1 s h H locs ls LS) (hcnt : s.heap.size + cells = base + h.2.1) (hcl : cells + (h'.2.1 - h.2.1) ≤ R.cells) (hsl : slots + (h'.2.2 - h.2.2) ≤ R.slots) (hfr : M.2.2.2.2.2.1.1 ≤ R.frames) (hlo : M.2.2.2.2.2.1.2 ≤ R.locals)
    (kk : (∀ (H1 : Heap) (locs1 : List Loc) (LS1 : Array Slot), am_st b base aC D L xs M.2.2.1 s h' H1 locs1 F'.2.1 LS1 → W p l e R s m args below meth c H1 locs1 (cells + (h'.2.1 - h.2.1)) (slots + (h'.2.2 - h.2.2)) Q (F0 m (am_pc M F'.1) LS1 (F'.2.2.map (am_cv b base))))) :
    W p l e R s m args below meth c H locs cells slots Q (F0 m (am_pc M j) LS (st.map (am_cv b base))) := by
  obtain ⟨hx, hb, hml, hr, hown, hts, hlocks, hname, hK, hX, hbb, hbs, hnw, haS, haI⟩ := C0
  obtain ⟨hR, hS0, hS, hlv, hlen⟩ := id X
  simp only [am_chkI, Bool.and_eq_true, decide_eq_true_eq] at hI
  obtain ⟨hnx, rfl⟩ := hI
  obtain ⟨rfl, hn⟩ := am_nx_spec hins hnx
  cases es
  refine lv_sipush hx hb hdec rfl ?_
  exact am_fin0 (kk H locs LS X) (congrArg (fun z => F0 m z LS _) hn)
set_option maxHeartbeats 1000000 in
theorem ss_ldc {M : am_M} {j len a bb : Nat} {v : Value} {sw : List (Int32 × Nat)} {n : Nat} {ls st : List Value} {h h' : am_H} {F' : am_F} {LS : Array Slot} (hins : am_ins M j = (.ldc n, len, a, bb, v, sw)) (hdec : decode M.2.1 (am_pc M j) = .ok (.ldc n, len)) (hI : am_chkI M j (.ldc n, len, a, bb, v, sw) = true) (C0 : am_ctx b base aC D L xs p s m args meth c M) (hkd : am_kind (.ldc n, len, a, bb, v, sw) = 0) (es : am_step (.ldc n, len, a, bb, v, sw) j ls st h = some (F', h')) (X : am_st b base aC D L xs M.2.2.1 s h H locs ls LS) (hcnt : s.heap.size + cells = base + h.2.1) (hcl : cells + (h'.2.1 - h.2.1) ≤ R.cells) (hsl : slots + (h'.2.2 - h.2.2) ≤ R.slots) (hfr : M.2.2.2.2.2.1.1 ≤ R.frames) (hlo : M.2.2.2.2.2.1.2 ≤ R.locals)
    (kk : (∀ (H1 : Heap) (locs1 : List Loc) (LS1 : Array Slot), am_st b base aC D L xs M.2.2.1 s h' H1 locs1 F'.2.1 LS1 → W p l e R s m args below meth c H1 locs1 (cells + (h'.2.1 - h.2.1)) (slots + (h'.2.2 - h.2.2)) Q (F0 m (am_pc M F'.1) LS1 (F'.2.2.map (am_cv b base))))) :
    W p l e R s m args below meth c H locs cells slots Q (F0 m (am_pc M j) LS (st.map (am_cv b base))) := by
  obtain ⟨hx, hb, hml, hr, hown, hts, hlocks, hname, hK, hX, hbb, hbs, hnw, haS, haI⟩ := C0
  obtain ⟨hR, hS0, hS, hlv, hlen⟩ := id X
  simp only [am_chkI, Bool.and_eq_true] at hI
  obtain ⟨hnx, hw⟩ := hI
  obtain ⟨rfl, hn⟩ := am_nx_spec hins hnx
  split at hw
  · rename_i x hx1
    cases es
    refine lv_ldc hx hb hown (hts _ (w_ki _ (of_decide_eq_true hw))) hdec ?_
    exact am_fin0 (kk H locs LS X) (congrArg (fun z => F0 m z LS _) hn)
  · cases hw
set_option maxHeartbeats 1000000 in
theorem ss_ldc2_w {M : am_M} {j len a bb : Nat} {v : Value} {sw : List (Int32 × Nat)} {n : Nat} {ls st : List Value} {h h' : am_H} {F' : am_F} {LS : Array Slot} (hins : am_ins M j = (.ldc2_w n, len, a, bb, v, sw)) (hdec : decode M.2.1 (am_pc M j) = .ok (.ldc2_w n, len)) (hI : am_chkI M j (.ldc2_w n, len, a, bb, v, sw) = true) (C0 : am_ctx b base aC D L xs p s m args meth c M) (hkd : am_kind (.ldc2_w n, len, a, bb, v, sw) = 0) (es : am_step (.ldc2_w n, len, a, bb, v, sw) j ls st h = some (F', h')) (X : am_st b base aC D L xs M.2.2.1 s h H locs ls LS) (hcnt : s.heap.size + cells = base + h.2.1) (hcl : cells + (h'.2.1 - h.2.1) ≤ R.cells) (hsl : slots + (h'.2.2 - h.2.2) ≤ R.slots) (hfr : M.2.2.2.2.2.1.1 ≤ R.frames) (hlo : M.2.2.2.2.2.1.2 ≤ R.locals)
    (kk : (∀ (H1 : Heap) (locs1 : List Loc) (LS1 : Array Slot), am_st b base aC D L xs M.2.2.1 s h' H1 locs1 F'.2.1 LS1 → W p l e R s m args below meth c H1 locs1 (cells + (h'.2.1 - h.2.1)) (slots + (h'.2.2 - h.2.2)) Q (F0 m (am_pc M F'.1) LS1 (F'.2.2.map (am_cv b base))))) :
    W p l e R s m args below meth c H locs cells slots Q (F0 m (am_pc M j) LS (st.map (am_cv b base))) := by
  obtain ⟨hx, hb, hml, hr, hown, hts, hlocks, hname, hK, hX, hbb, hbs, hnw, haS, haI⟩ := C0
  obtain ⟨hR, hS0, hS, hlv, hlen⟩ := id X
  simp only [am_chkI, Bool.and_eq_true] at hI
  obtain ⟨hnx, hw⟩ := hI
  obtain ⟨rfl, hn⟩ := am_nx_spec hins hnx
  split at hw
  · rename_i x hx1
    cases es
    refine lv_ldc2 hx hb hown (hts _ (w_kl _ (of_decide_eq_true hw))) hdec ?_
    exact am_fin0 (kk H locs LS X) (congrArg (fun z => F0 m z LS _) hn)
  · cases hw
set_option maxHeartbeats 1000000 in
theorem ss_iadd {M : am_M} {j len a bb : Nat} {v : Value} {sw : List (Int32 × Nat)} {ls st : List Value} {h h' : am_H} {F' : am_F} {LS : Array Slot} (hins : am_ins M j = (.iadd, len, a, bb, v, sw)) (hdec : decode M.2.1 (am_pc M j) = .ok (.iadd, len)) (hI : am_chkI M j (.iadd, len, a, bb, v, sw) = true) (C0 : am_ctx b base aC D L xs p s m args meth c M) (hkd : am_kind (.iadd, len, a, bb, v, sw) = 0) (es : am_step (.iadd, len, a, bb, v, sw) j ls st h = some (F', h')) (X : am_st b base aC D L xs M.2.2.1 s h H locs ls LS) (hcnt : s.heap.size + cells = base + h.2.1) (hcl : cells + (h'.2.1 - h.2.1) ≤ R.cells) (hsl : slots + (h'.2.2 - h.2.2) ≤ R.slots) (hfr : M.2.2.2.2.2.1.1 ≤ R.frames) (hlo : M.2.2.2.2.2.1.2 ≤ R.locals)
    (kk : (∀ (H1 : Heap) (locs1 : List Loc) (LS1 : Array Slot), am_st b base aC D L xs M.2.2.1 s h' H1 locs1 F'.2.1 LS1 → W p l e R s m args below meth c H1 locs1 (cells + (h'.2.1 - h.2.1)) (slots + (h'.2.2 - h.2.2)) Q (F0 m (am_pc M F'.1) LS1 (F'.2.2.map (am_cv b base))))) :
    W p l e R s m args below meth c H locs cells slots Q (F0 m (am_pc M j) LS (st.map (am_cv b base))) := by
  obtain ⟨hx, hb, hml, hr, hown, hts, hlocks, hname, hK, hX, hbb, hbs, hnw, haS, haI⟩ := C0
  obtain ⟨hR, hS0, hS, hlv, hlen⟩ := id X
  obtain ⟨rfl, hn⟩ := am_nx_spec hins (show am_nx M j 1 = true from hI)
  obtain ⟨x, y, r, rfl, es2⟩ := am_i2_some es
  clear es
  have es := es2
  clear es2
  cases es
  refine lv_iadd hx hb hdec ?_
  exact am_fin0 (kk H locs LS X) (congrArg (fun z => F0 m z LS _) hn)
set_option maxHeartbeats 1000000 in
theorem ss_isub {M : am_M} {j len a bb : Nat} {v : Value} {sw : List (Int32 × Nat)} {ls st : List Value} {h h' : am_H} {F' : am_F} {LS : Array Slot} (hins : am_ins M j = (.isub, len, a, bb, v, sw)) (hdec : decode M.2.1 (am_pc M j) = .ok (.isub, len)) (hI : am_chkI M j (.isub, len, a, bb, v, sw) = true) (C0 : am_ctx b base aC D L xs p s m args meth c M) (hkd : am_kind (.isub, len, a, bb, v, sw) = 0) (es : am_step (.isub, len, a, bb, v, sw) j ls st h = some (F', h')) (X : am_st b base aC D L xs M.2.2.1 s h H locs ls LS) (hcnt : s.heap.size + cells = base + h.2.1) (hcl : cells + (h'.2.1 - h.2.1) ≤ R.cells) (hsl : slots + (h'.2.2 - h.2.2) ≤ R.slots) (hfr : M.2.2.2.2.2.1.1 ≤ R.frames) (hlo : M.2.2.2.2.2.1.2 ≤ R.locals)
    (kk : (∀ (H1 : Heap) (locs1 : List Loc) (LS1 : Array Slot), am_st b base aC D L xs M.2.2.1 s h' H1 locs1 F'.2.1 LS1 → W p l e R s m args below meth c H1 locs1 (cells + (h'.2.1 - h.2.1)) (slots + (h'.2.2 - h.2.2)) Q (F0 m (am_pc M F'.1) LS1 (F'.2.2.map (am_cv b base))))) :
    W p l e R s m args below meth c H locs cells slots Q (F0 m (am_pc M j) LS (st.map (am_cv b base))) := by
  obtain ⟨hx, hb, hml, hr, hown, hts, hlocks, hname, hK, hX, hbb, hbs, hnw, haS, haI⟩ := C0
  obtain ⟨hR, hS0, hS, hlv, hlen⟩ := id X
  obtain ⟨rfl, hn⟩ := am_nx_spec hins (show am_nx M j 1 = true from hI)
  obtain ⟨x, y, r, rfl, es2⟩ := am_i2_some es
  clear es
  have es := es2
  clear es2
  cases es
  refine lv_isub hx hb hdec ?_
  exact am_fin0 (kk H locs LS X) (congrArg (fun z => F0 m z LS _) hn)
set_option maxHeartbeats 1000000 in
theorem ss_imul {M : am_M} {j len a bb : Nat} {v : Value} {sw : List (Int32 × Nat)} {ls st : List Value} {h h' : am_H} {F' : am_F} {LS : Array Slot} (hins : am_ins M j = (.imul, len, a, bb, v, sw)) (hdec : decode M.2.1 (am_pc M j) = .ok (.imul, len)) (hI : am_chkI M j (.imul, len, a, bb, v, sw) = true) (C0 : am_ctx b base aC D L xs p s m args meth c M) (hkd : am_kind (.imul, len, a, bb, v, sw) = 0) (es : am_step (.imul, len, a, bb, v, sw) j ls st h = some (F', h')) (X : am_st b base aC D L xs M.2.2.1 s h H locs ls LS) (hcnt : s.heap.size + cells = base + h.2.1) (hcl : cells + (h'.2.1 - h.2.1) ≤ R.cells) (hsl : slots + (h'.2.2 - h.2.2) ≤ R.slots) (hfr : M.2.2.2.2.2.1.1 ≤ R.frames) (hlo : M.2.2.2.2.2.1.2 ≤ R.locals)
    (kk : (∀ (H1 : Heap) (locs1 : List Loc) (LS1 : Array Slot), am_st b base aC D L xs M.2.2.1 s h' H1 locs1 F'.2.1 LS1 → W p l e R s m args below meth c H1 locs1 (cells + (h'.2.1 - h.2.1)) (slots + (h'.2.2 - h.2.2)) Q (F0 m (am_pc M F'.1) LS1 (F'.2.2.map (am_cv b base))))) :
    W p l e R s m args below meth c H locs cells slots Q (F0 m (am_pc M j) LS (st.map (am_cv b base))) := by
  obtain ⟨hx, hb, hml, hr, hown, hts, hlocks, hname, hK, hX, hbb, hbs, hnw, haS, haI⟩ := C0
  obtain ⟨hR, hS0, hS, hlv, hlen⟩ := id X
  obtain ⟨rfl, hn⟩ := am_nx_spec hins (show am_nx M j 1 = true from hI)
  obtain ⟨x, y, r, rfl, es2⟩ := am_i2_some es
  clear es
  have es := es2
  clear es2
  cases es
  refine lv_imul hx hb hdec ?_
  exact am_fin0 (kk H locs LS X) (congrArg (fun z => F0 m z LS _) hn)
set_option maxHeartbeats 1000000 in
theorem ss_iand {M : am_M} {j len a bb : Nat} {v : Value} {sw : List (Int32 × Nat)} {ls st : List Value} {h h' : am_H} {F' : am_F} {LS : Array Slot} (hins : am_ins M j = (.iand, len, a, bb, v, sw)) (hdec : decode M.2.1 (am_pc M j) = .ok (.iand, len)) (hI : am_chkI M j (.iand, len, a, bb, v, sw) = true) (C0 : am_ctx b base aC D L xs p s m args meth c M) (hkd : am_kind (.iand, len, a, bb, v, sw) = 0) (es : am_step (.iand, len, a, bb, v, sw) j ls st h = some (F', h')) (X : am_st b base aC D L xs M.2.2.1 s h H locs ls LS) (hcnt : s.heap.size + cells = base + h.2.1) (hcl : cells + (h'.2.1 - h.2.1) ≤ R.cells) (hsl : slots + (h'.2.2 - h.2.2) ≤ R.slots) (hfr : M.2.2.2.2.2.1.1 ≤ R.frames) (hlo : M.2.2.2.2.2.1.2 ≤ R.locals)
    (kk : (∀ (H1 : Heap) (locs1 : List Loc) (LS1 : Array Slot), am_st b base aC D L xs M.2.2.1 s h' H1 locs1 F'.2.1 LS1 → W p l e R s m args below meth c H1 locs1 (cells + (h'.2.1 - h.2.1)) (slots + (h'.2.2 - h.2.2)) Q (F0 m (am_pc M F'.1) LS1 (F'.2.2.map (am_cv b base))))) :
    W p l e R s m args below meth c H locs cells slots Q (F0 m (am_pc M j) LS (st.map (am_cv b base))) := by
  obtain ⟨hx, hb, hml, hr, hown, hts, hlocks, hname, hK, hX, hbb, hbs, hnw, haS, haI⟩ := C0
  obtain ⟨hR, hS0, hS, hlv, hlen⟩ := id X
  obtain ⟨rfl, hn⟩ := am_nx_spec hins (show am_nx M j 1 = true from hI)
  obtain ⟨x, y, r, rfl, es2⟩ := am_i2_some es
  clear es
  have es := es2
  clear es2
  cases es
  refine lv_iand hx hb hdec ?_
  exact am_fin0 (kk H locs LS X) (congrArg (fun z => F0 m z LS _) hn)
set_option maxHeartbeats 1000000 in
theorem ss_ior {M : am_M} {j len a bb : Nat} {v : Value} {sw : List (Int32 × Nat)} {ls st : List Value} {h h' : am_H} {F' : am_F} {LS : Array Slot} (hins : am_ins M j = (.ior, len, a, bb, v, sw)) (hdec : decode M.2.1 (am_pc M j) = .ok (.ior, len)) (hI : am_chkI M j (.ior, len, a, bb, v, sw) = true) (C0 : am_ctx b base aC D L xs p s m args meth c M) (hkd : am_kind (.ior, len, a, bb, v, sw) = 0) (es : am_step (.ior, len, a, bb, v, sw) j ls st h = some (F', h')) (X : am_st b base aC D L xs M.2.2.1 s h H locs ls LS) (hcnt : s.heap.size + cells = base + h.2.1) (hcl : cells + (h'.2.1 - h.2.1) ≤ R.cells) (hsl : slots + (h'.2.2 - h.2.2) ≤ R.slots) (hfr : M.2.2.2.2.2.1.1 ≤ R.frames) (hlo : M.2.2.2.2.2.1.2 ≤ R.locals)
    (kk : (∀ (H1 : Heap) (locs1 : List Loc) (LS1 : Array Slot), am_st b base aC D L xs M.2.2.1 s h' H1 locs1 F'.2.1 LS1 → W p l e R s m args below meth c H1 locs1 (cells + (h'.2.1 - h.2.1)) (slots + (h'.2.2 - h.2.2)) Q (F0 m (am_pc M F'.1) LS1 (F'.2.2.map (am_cv b base))))) :
    W p l e R s m args below meth c H locs cells slots Q (F0 m (am_pc M j) LS (st.map (am_cv b base))) := by
  obtain ⟨hx, hb, hml, hr, hown, hts, hlocks, hname, hK, hX, hbb, hbs, hnw, haS, haI⟩ := C0
  obtain ⟨hR, hS0, hS, hlv, hlen⟩ := id X
  obtain ⟨rfl, hn⟩ := am_nx_spec hins (show am_nx M j 1 = true from hI)
  obtain ⟨x, y, r, rfl, es2⟩ := am_i2_some es
  clear es
  have es := es2
  clear es2
  cases es
  refine lv_ior hx hb hdec ?_
  exact am_fin0 (kk H locs LS X) (congrArg (fun z => F0 m z LS _) hn)
set_option maxHeartbeats 1000000 in
theorem ss_ixor {M : am_M} {j len a bb : Nat} {v : Value} {sw : List (Int32 × Nat)} {ls st : List Value} {h h' : am_H} {F' : am_F} {LS : Array Slot} (hins : am_ins M j = (.ixor, len, a, bb, v, sw)) (hdec : decode M.2.1 (am_pc M j) = .ok (.ixor, len)) (hI : am_chkI M j (.ixor, len, a, bb, v, sw) = true) (C0 : am_ctx b base aC D L xs p s m args meth c M) (hkd : am_kind (.ixor, len, a, bb, v, sw) = 0) (es : am_step (.ixor, len, a, bb, v, sw) j ls st h = some (F', h')) (X : am_st b base aC D L xs M.2.2.1 s h H locs ls LS) (hcnt : s.heap.size + cells = base + h.2.1) (hcl : cells + (h'.2.1 - h.2.1) ≤ R.cells) (hsl : slots + (h'.2.2 - h.2.2) ≤ R.slots) (hfr : M.2.2.2.2.2.1.1 ≤ R.frames) (hlo : M.2.2.2.2.2.1.2 ≤ R.locals)
    (kk : (∀ (H1 : Heap) (locs1 : List Loc) (LS1 : Array Slot), am_st b base aC D L xs M.2.2.1 s h' H1 locs1 F'.2.1 LS1 → W p l e R s m args below meth c H1 locs1 (cells + (h'.2.1 - h.2.1)) (slots + (h'.2.2 - h.2.2)) Q (F0 m (am_pc M F'.1) LS1 (F'.2.2.map (am_cv b base))))) :
    W p l e R s m args below meth c H locs cells slots Q (F0 m (am_pc M j) LS (st.map (am_cv b base))) := by
  obtain ⟨hx, hb, hml, hr, hown, hts, hlocks, hname, hK, hX, hbb, hbs, hnw, haS, haI⟩ := C0
  obtain ⟨hR, hS0, hS, hlv, hlen⟩ := id X
  obtain ⟨rfl, hn⟩ := am_nx_spec hins (show am_nx M j 1 = true from hI)
  obtain ⟨x, y, r, rfl, es2⟩ := am_i2_some es
  clear es
  have es := es2
  clear es2
  cases es
  refine lv_ixor hx hb hdec ?_
  exact am_fin0 (kk H locs LS X) (congrArg (fun z => F0 m z LS _) hn)
set_option maxHeartbeats 1000000 in
theorem ss_ishl {M : am_M} {j len a bb : Nat} {v : Value} {sw : List (Int32 × Nat)} {ls st : List Value} {h h' : am_H} {F' : am_F} {LS : Array Slot} (hins : am_ins M j = (.ishl, len, a, bb, v, sw)) (hdec : decode M.2.1 (am_pc M j) = .ok (.ishl, len)) (hI : am_chkI M j (.ishl, len, a, bb, v, sw) = true) (C0 : am_ctx b base aC D L xs p s m args meth c M) (hkd : am_kind (.ishl, len, a, bb, v, sw) = 0) (es : am_step (.ishl, len, a, bb, v, sw) j ls st h = some (F', h')) (X : am_st b base aC D L xs M.2.2.1 s h H locs ls LS) (hcnt : s.heap.size + cells = base + h.2.1) (hcl : cells + (h'.2.1 - h.2.1) ≤ R.cells) (hsl : slots + (h'.2.2 - h.2.2) ≤ R.slots) (hfr : M.2.2.2.2.2.1.1 ≤ R.frames) (hlo : M.2.2.2.2.2.1.2 ≤ R.locals)
    (kk : (∀ (H1 : Heap) (locs1 : List Loc) (LS1 : Array Slot), am_st b base aC D L xs M.2.2.1 s h' H1 locs1 F'.2.1 LS1 → W p l e R s m args below meth c H1 locs1 (cells + (h'.2.1 - h.2.1)) (slots + (h'.2.2 - h.2.2)) Q (F0 m (am_pc M F'.1) LS1 (F'.2.2.map (am_cv b base))))) :
    W p l e R s m args below meth c H locs cells slots Q (F0 m (am_pc M j) LS (st.map (am_cv b base))) := by
  obtain ⟨hx, hb, hml, hr, hown, hts, hlocks, hname, hK, hX, hbb, hbs, hnw, haS, haI⟩ := C0
  obtain ⟨hR, hS0, hS, hlv, hlen⟩ := id X
  obtain ⟨rfl, hn⟩ := am_nx_spec hins (show am_nx M j 1 = true from hI)
  obtain ⟨x, y, r, rfl, es2⟩ := am_i2_some es
  clear es
  have es := es2
  clear es2
  cases es
  refine lv_ishl hx hb hdec ?_
  exact am_fin0 (kk H locs LS X) (congrArg (fun z => F0 m z LS _) hn)
set_option maxHeartbeats 1000000 in
theorem ss_ishr {M : am_M} {j len a bb : Nat} {v : Value} {sw : List (Int32 × Nat)} {ls st : List Value} {h h' : am_H} {F' : am_F} {LS : Array Slot} (hins : am_ins M j = (.ishr, len, a, bb, v, sw)) (hdec : decode M.2.1 (am_pc M j) = .ok (.ishr, len)) (hI : am_chkI M j (.ishr, len, a, bb, v, sw) = true) (C0 : am_ctx b base aC D L xs p s m args meth c M) (hkd : am_kind (.ishr, len, a, bb, v, sw) = 0) (es : am_step (.ishr, len, a, bb, v, sw) j ls st h = some (F', h')) (X : am_st b base aC D L xs M.2.2.1 s h H locs ls LS) (hcnt : s.heap.size + cells = base + h.2.1) (hcl : cells + (h'.2.1 - h.2.1) ≤ R.cells) (hsl : slots + (h'.2.2 - h.2.2) ≤ R.slots) (hfr : M.2.2.2.2.2.1.1 ≤ R.frames) (hlo : M.2.2.2.2.2.1.2 ≤ R.locals)
    (kk : (∀ (H1 : Heap) (locs1 : List Loc) (LS1 : Array Slot), am_st b base aC D L xs M.2.2.1 s h' H1 locs1 F'.2.1 LS1 → W p l e R s m args below meth c H1 locs1 (cells + (h'.2.1 - h.2.1)) (slots + (h'.2.2 - h.2.2)) Q (F0 m (am_pc M F'.1) LS1 (F'.2.2.map (am_cv b base))))) :
    W p l e R s m args below meth c H locs cells slots Q (F0 m (am_pc M j) LS (st.map (am_cv b base))) := by
  obtain ⟨hx, hb, hml, hr, hown, hts, hlocks, hname, hK, hX, hbb, hbs, hnw, haS, haI⟩ := C0
  obtain ⟨hR, hS0, hS, hlv, hlen⟩ := id X
  obtain ⟨rfl, hn⟩ := am_nx_spec hins (show am_nx M j 1 = true from hI)
  obtain ⟨x, y, r, rfl, es2⟩ := am_i2_some es
  clear es
  have es := es2
  clear es2
  cases es
  refine lv_ishr hx hb hdec ?_
  exact am_fin0 (kk H locs LS X) (congrArg (fun z => F0 m z LS _) hn)
set_option maxHeartbeats 1000000 in
theorem ss_idiv {M : am_M} {j len a bb : Nat} {v : Value} {sw : List (Int32 × Nat)} {ls st : List Value} {h h' : am_H} {F' : am_F} {LS : Array Slot} (hins : am_ins M j = (.idiv, len, a, bb, v, sw)) (hdec : decode M.2.1 (am_pc M j) = .ok (.idiv, len)) (hI : am_chkI M j (.idiv, len, a, bb, v, sw) = true) (C0 : am_ctx b base aC D L xs p s m args meth c M) (hkd : am_kind (.idiv, len, a, bb, v, sw) = 0) (es : am_step (.idiv, len, a, bb, v, sw) j ls st h = some (F', h')) (X : am_st b base aC D L xs M.2.2.1 s h H locs ls LS) (hcnt : s.heap.size + cells = base + h.2.1) (hcl : cells + (h'.2.1 - h.2.1) ≤ R.cells) (hsl : slots + (h'.2.2 - h.2.2) ≤ R.slots) (hfr : M.2.2.2.2.2.1.1 ≤ R.frames) (hlo : M.2.2.2.2.2.1.2 ≤ R.locals)
    (kk : (∀ (H1 : Heap) (locs1 : List Loc) (LS1 : Array Slot), am_st b base aC D L xs M.2.2.1 s h' H1 locs1 F'.2.1 LS1 → W p l e R s m args below meth c H1 locs1 (cells + (h'.2.1 - h.2.1)) (slots + (h'.2.2 - h.2.2)) Q (F0 m (am_pc M F'.1) LS1 (F'.2.2.map (am_cv b base))))) :
    W p l e R s m args below meth c H locs cells slots Q (F0 m (am_pc M j) LS (st.map (am_cv b base))) := by
  obtain ⟨hx, hb, hml, hr, hown, hts, hlocks, hname, hK, hX, hbb, hbs, hnw, haS, haI⟩ := C0
  obtain ⟨hR, hS0, hS, hlv, hlen⟩ := id X
  obtain ⟨rfl, hn⟩ := am_nx_spec hins (show am_nx M j 1 = true from hI)
  simp only [am_step] at es
  obtain ⟨x, y, r, rfl, es2⟩ := am_i2_some es
  clear es
  have es := es2
  clear es2
  split at es
  · cases es
  · rename_i hne
    cases es
    refine lv_idiv hx hb hdec hne ?_
    exact am_fin0 (kk H locs LS X) (congrArg (fun z => F0 m z LS _) hn)
set_option maxHeartbeats 1000000 in
theorem ss_irem {M : am_M} {j len a bb : Nat} {v : Value} {sw : List (Int32 × Nat)} {ls st : List Value} {h h' : am_H} {F' : am_F} {LS : Array Slot} (hins : am_ins M j = (.irem, len, a, bb, v, sw)) (hdec : decode M.2.1 (am_pc M j) = .ok (.irem, len)) (hI : am_chkI M j (.irem, len, a, bb, v, sw) = true) (C0 : am_ctx b base aC D L xs p s m args meth c M) (hkd : am_kind (.irem, len, a, bb, v, sw) = 0) (es : am_step (.irem, len, a, bb, v, sw) j ls st h = some (F', h')) (X : am_st b base aC D L xs M.2.2.1 s h H locs ls LS) (hcnt : s.heap.size + cells = base + h.2.1) (hcl : cells + (h'.2.1 - h.2.1) ≤ R.cells) (hsl : slots + (h'.2.2 - h.2.2) ≤ R.slots) (hfr : M.2.2.2.2.2.1.1 ≤ R.frames) (hlo : M.2.2.2.2.2.1.2 ≤ R.locals)
    (kk : (∀ (H1 : Heap) (locs1 : List Loc) (LS1 : Array Slot), am_st b base aC D L xs M.2.2.1 s h' H1 locs1 F'.2.1 LS1 → W p l e R s m args below meth c H1 locs1 (cells + (h'.2.1 - h.2.1)) (slots + (h'.2.2 - h.2.2)) Q (F0 m (am_pc M F'.1) LS1 (F'.2.2.map (am_cv b base))))) :
    W p l e R s m args below meth c H locs cells slots Q (F0 m (am_pc M j) LS (st.map (am_cv b base))) := by
  obtain ⟨hx, hb, hml, hr, hown, hts, hlocks, hname, hK, hX, hbb, hbs, hnw, haS, haI⟩ := C0
  obtain ⟨hR, hS0, hS, hlv, hlen⟩ := id X
  obtain ⟨rfl, hn⟩ := am_nx_spec hins (show am_nx M j 1 = true from hI)
  simp only [am_step] at es
  obtain ⟨x, y, r, rfl, es2⟩ := am_i2_some es
  clear es
  have es := es2
  clear es2
  split at es
  · cases es
  · rename_i hne
    cases es
    refine lv_irem hx hb hdec hne ?_
    exact am_fin0 (kk H locs LS X) (congrArg (fun z => F0 m z LS _) hn)
set_option maxHeartbeats 1000000 in
theorem ss_ladd {M : am_M} {j len a bb : Nat} {v : Value} {sw : List (Int32 × Nat)} {ls st : List Value} {h h' : am_H} {F' : am_F} {LS : Array Slot} (hins : am_ins M j = (.ladd, len, a, bb, v, sw)) (hdec : decode M.2.1 (am_pc M j) = .ok (.ladd, len)) (hI : am_chkI M j (.ladd, len, a, bb, v, sw) = true) (C0 : am_ctx b base aC D L xs p s m args meth c M) (hkd : am_kind (.ladd, len, a, bb, v, sw) = 0) (es : am_step (.ladd, len, a, bb, v, sw) j ls st h = some (F', h')) (X : am_st b base aC D L xs M.2.2.1 s h H locs ls LS) (hcnt : s.heap.size + cells = base + h.2.1) (hcl : cells + (h'.2.1 - h.2.1) ≤ R.cells) (hsl : slots + (h'.2.2 - h.2.2) ≤ R.slots) (hfr : M.2.2.2.2.2.1.1 ≤ R.frames) (hlo : M.2.2.2.2.2.1.2 ≤ R.locals)
    (kk : (∀ (H1 : Heap) (locs1 : List Loc) (LS1 : Array Slot), am_st b base aC D L xs M.2.2.1 s h' H1 locs1 F'.2.1 LS1 → W p l e R s m args below meth c H1 locs1 (cells + (h'.2.1 - h.2.1)) (slots + (h'.2.2 - h.2.2)) Q (F0 m (am_pc M F'.1) LS1 (F'.2.2.map (am_cv b base))))) :
    W p l e R s m args below meth c H locs cells slots Q (F0 m (am_pc M j) LS (st.map (am_cv b base))) := by
  obtain ⟨hx, hb, hml, hr, hown, hts, hlocks, hname, hK, hX, hbb, hbs, hnw, haS, haI⟩ := C0
  obtain ⟨hR, hS0, hS, hlv, hlen⟩ := id X
  obtain ⟨rfl, hn⟩ := am_nx_spec hins (show am_nx M j 1 = true from hI)
  obtain ⟨x, y, r, rfl, es2⟩ := am_l2_some es
  clear es
  have es := es2
  clear es2
  cases es
  refine lv_ladd hx hb hdec ?_
  exact am_fin0 (kk H locs LS X) (congrArg (fun z => F0 m z LS _) hn)
set_option maxHeartbeats 1000000 in
theorem ss_lmul {M : am_M} {j len a bb : Nat} {v : Value} {sw : List (Int32 × Nat)} {ls st : List Value} {h h' : am_H} {F' : am_F} {LS : Array Slot} (hins : am_ins M j = (.lmul, len, a, bb, v, sw)) (hdec : decode M.2.1 (am_pc M j) = .ok (.lmul, len)) (hI : am_chkI M j (.lmul, len, a, bb, v, sw) = true) (C0 : am_ctx b base aC D L xs p s m args meth c M) (hkd : am_kind (.lmul, len, a, bb, v, sw) = 0) (es : am_step (.lmul, len, a, bb, v, sw) j ls st h = some (F', h')) (X : am_st b base aC D L xs M.2.2.1 s h H locs ls LS) (hcnt : s.heap.size + cells = base + h.2.1) (hcl : cells + (h'.2.1 - h.2.1) ≤ R.cells) (hsl : slots + (h'.2.2 - h.2.2) ≤ R.slots) (hfr : M.2.2.2.2.2.1.1 ≤ R.frames) (hlo : M.2.2.2.2.2.1.2 ≤ R.locals)
    (kk : (∀ (H1 : Heap) (locs1 : List Loc) (LS1 : Array Slot), am_st b base aC D L xs M.2.2.1 s h' H1 locs1 F'.2.1 LS1 → W p l e R s m args below meth c H1 locs1 (cells + (h'.2.1 - h.2.1)) (slots + (h'.2.2 - h.2.2)) Q (F0 m (am_pc M F'.1) LS1 (F'.2.2.map (am_cv b base))))) :
    W p l e R s m args below meth c H locs cells slots Q (F0 m (am_pc M j) LS (st.map (am_cv b base))) := by
  obtain ⟨hx, hb, hml, hr, hown, hts, hlocks, hname, hK, hX, hbb, hbs, hnw, haS, haI⟩ := C0
  obtain ⟨hR, hS0, hS, hlv, hlen⟩ := id X
  obtain ⟨rfl, hn⟩ := am_nx_spec hins (show am_nx M j 1 = true from hI)
  obtain ⟨x, y, r, rfl, es2⟩ := am_l2_some es
  clear es
  have es := es2
  clear es2
  cases es
  refine lv_lmul hx hb hdec ?_
  exact am_fin0 (kk H locs LS X) (congrArg (fun z => F0 m z LS _) hn)
set_option maxHeartbeats 1000000 in
theorem ss_land {M : am_M} {j len a bb : Nat} {v : Value} {sw : List (Int32 × Nat)} {ls st : List Value} {h h' : am_H} {F' : am_F} {LS : Array Slot} (hins : am_ins M j = (.land, len, a, bb, v, sw)) (hdec : decode M.2.1 (am_pc M j) = .ok (.land, len)) (hI : am_chkI M j (.land, len, a, bb, v, sw) = true) (C0 : am_ctx b base aC D L xs p s m args meth c M) (hkd : am_kind (.land, len, a, bb, v, sw) = 0) (es : am_step (.land, len, a, bb, v, sw) j ls st h = some (F', h')) (X : am_st b base aC D L xs M.2.2.1 s h H locs ls LS) (hcnt : s.heap.size + cells = base + h.2.1) (hcl : cells + (h'.2.1 - h.2.1) ≤ R.cells) (hsl : slots + (h'.2.2 - h.2.2) ≤ R.slots) (hfr : M.2.2.2.2.2.1.1 ≤ R.frames) (hlo : M.2.2.2.2.2.1.2 ≤ R.locals)
    (kk : (∀ (H1 : Heap) (locs1 : List Loc) (LS1 : Array Slot), am_st b base aC D L xs M.2.2.1 s h' H1 locs1 F'.2.1 LS1 → W p l e R s m args below meth c H1 locs1 (cells + (h'.2.1 - h.2.1)) (slots + (h'.2.2 - h.2.2)) Q (F0 m (am_pc M F'.1) LS1 (F'.2.2.map (am_cv b base))))) :
    W p l e R s m args below meth c H locs cells slots Q (F0 m (am_pc M j) LS (st.map (am_cv b base))) := by
  obtain ⟨hx, hb, hml, hr, hown, hts, hlocks, hname, hK, hX, hbb, hbs, hnw, haS, haI⟩ := C0
  obtain ⟨hR, hS0, hS, hlv, hlen⟩ := id X
  obtain ⟨rfl, hn⟩ := am_nx_spec hins (show am_nx M j 1 = true from hI)
  obtain ⟨x, y, r, rfl, es2⟩ := am_l2_some es
  clear es
  have es := es2
  clear es2
  cases es
  refine lv_land hx hb hdec ?_
  exact am_fin0 (kk H locs LS X) (congrArg (fun z => F0 m z LS _) hn)
set_option maxHeartbeats 1000000 in
theorem ss_ldiv {M : am_M} {j len a bb : Nat} {v : Value} {sw : List (Int32 × Nat)} {ls st : List Value} {h h' : am_H} {F' : am_F} {LS : Array Slot} (hins : am_ins M j = (.ldiv, len, a, bb, v, sw)) (hdec : decode M.2.1 (am_pc M j) = .ok (.ldiv, len)) (hI : am_chkI M j (.ldiv, len, a, bb, v, sw) = true) (C0 : am_ctx b base aC D L xs p s m args meth c M) (hkd : am_kind (.ldiv, len, a, bb, v, sw) = 0) (es : am_step (.ldiv, len, a, bb, v, sw) j ls st h = some (F', h')) (X : am_st b base aC D L xs M.2.2.1 s h H locs ls LS) (hcnt : s.heap.size + cells = base + h.2.1) (hcl : cells + (h'.2.1 - h.2.1) ≤ R.cells) (hsl : slots + (h'.2.2 - h.2.2) ≤ R.slots) (hfr : M.2.2.2.2.2.1.1 ≤ R.frames) (hlo : M.2.2.2.2.2.1.2 ≤ R.locals)
    (kk : (∀ (H1 : Heap) (locs1 : List Loc) (LS1 : Array Slot), am_st b base aC D L xs M.2.2.1 s h' H1 locs1 F'.2.1 LS1 → W p l e R s m args below meth c H1 locs1 (cells + (h'.2.1 - h.2.1)) (slots + (h'.2.2 - h.2.2)) Q (F0 m (am_pc M F'.1) LS1 (F'.2.2.map (am_cv b base))))) :
    W p l e R s m args below meth c H locs cells slots Q (F0 m (am_pc M j) LS (st.map (am_cv b base))) := by
  obtain ⟨hx, hb, hml, hr, hown, hts, hlocks, hname, hK, hX, hbb, hbs, hnw, haS, haI⟩ := C0
  obtain ⟨hR, hS0, hS, hlv, hlen⟩ := id X
  obtain ⟨rfl, hn⟩ := am_nx_spec hins (show am_nx M j 1 = true from hI)
  simp only [am_step] at es
  obtain ⟨x, y, r, rfl, es2⟩ := am_l2_some es
  clear es
  have es := es2
  clear es2
  split at es
  · cases es
  · rename_i hne
    cases es
    refine lv_ldiv hx hb hdec hne ?_
    exact am_fin0 (kk H locs LS X) (congrArg (fun z => F0 m z LS _) hn)
set_option maxHeartbeats 1000000 in
theorem ss_lrem {M : am_M} {j len a bb : Nat} {v : Value} {sw : List (Int32 × Nat)} {ls st : List Value} {h h' : am_H} {F' : am_F} {LS : Array Slot} (hins : am_ins M j = (.lrem, len, a, bb, v, sw)) (hdec : decode M.2.1 (am_pc M j) = .ok (.lrem, len)) (hI : am_chkI M j (.lrem, len, a, bb, v, sw) = true) (C0 : am_ctx b base aC D L xs p s m args meth c M) (hkd : am_kind (.lrem, len, a, bb, v, sw) = 0) (es : am_step (.lrem, len, a, bb, v, sw) j ls st h = some (F', h')) (X : am_st b base aC D L xs M.2.2.1 s h H locs ls LS) (hcnt : s.heap.size + cells = base + h.2.1) (hcl : cells + (h'.2.1 - h.2.1) ≤ R.cells) (hsl : slots + (h'.2.2 - h.2.2) ≤ R.slots) (hfr : M.2.2.2.2.2.1.1 ≤ R.frames) (hlo : M.2.2.2.2.2.1.2 ≤ R.locals)
    (kk : (∀ (H1 : Heap) (locs1 : List Loc) (LS1 : Array Slot), am_st b base aC D L xs M.2.2.1 s h' H1 locs1 F'.2.1 LS1 → W p l e R s m args below meth c H1 locs1 (cells + (h'.2.1 - h.2.1)) (slots + (h'.2.2 - h.2.2)) Q (F0 m (am_pc M F'.1) LS1 (F'.2.2.map (am_cv b base))))) :
    W p l e R s m args below meth c H locs cells slots Q (F0 m (am_pc M j) LS (st.map (am_cv b base))) := by
  obtain ⟨hx, hb, hml, hr, hown, hts, hlocks, hname, hK, hX, hbb, hbs, hnw, haS, haI⟩ := C0
  obtain ⟨hR, hS0, hS, hlv, hlen⟩ := id X
  obtain ⟨rfl, hn⟩ := am_nx_spec hins (show am_nx M j 1 = true from hI)
  simp only [am_step] at es
  obtain ⟨x, y, r, rfl, es2⟩ := am_l2_some es
  clear es
  have es := es2
  clear es2
  split at es
  · cases es
  · rename_i hne
    cases es
    refine lv_lrem hx hb hdec hne ?_
    exact am_fin0 (kk H locs LS X) (congrArg (fun z => F0 m z LS _) hn)
set_option maxHeartbeats 1000000 in
theorem ss_ineg {M : am_M} {j len a bb : Nat} {v : Value} {sw : List (Int32 × Nat)} {ls st : List Value} {h h' : am_H} {F' : am_F} {LS : Array Slot} (hins : am_ins M j = (.ineg, len, a, bb, v, sw)) (hdec : decode M.2.1 (am_pc M j) = .ok (.ineg, len)) (hI : am_chkI M j (.ineg, len, a, bb, v, sw) = true) (C0 : am_ctx b base aC D L xs p s m args meth c M) (hkd : am_kind (.ineg, len, a, bb, v, sw) = 0) (es : am_step (.ineg, len, a, bb, v, sw) j ls st h = some (F', h')) (X : am_st b base aC D L xs M.2.2.1 s h H locs ls LS) (hcnt : s.heap.size + cells = base + h.2.1) (hcl : cells + (h'.2.1 - h.2.1) ≤ R.cells) (hsl : slots + (h'.2.2 - h.2.2) ≤ R.slots) (hfr : M.2.2.2.2.2.1.1 ≤ R.frames) (hlo : M.2.2.2.2.2.1.2 ≤ R.locals)
    (kk : (∀ (H1 : Heap) (locs1 : List Loc) (LS1 : Array Slot), am_st b base aC D L xs M.2.2.1 s h' H1 locs1 F'.2.1 LS1 → W p l e R s m args below meth c H1 locs1 (cells + (h'.2.1 - h.2.1)) (slots + (h'.2.2 - h.2.2)) Q (F0 m (am_pc M F'.1) LS1 (F'.2.2.map (am_cv b base))))) :
    W p l e R s m args below meth c H locs cells slots Q (F0 m (am_pc M j) LS (st.map (am_cv b base))) := by
  obtain ⟨hx, hb, hml, hr, hown, hts, hlocks, hname, hK, hX, hbb, hbs, hnw, haS, haI⟩ := C0
  obtain ⟨hR, hS0, hS, hlv, hlen⟩ := id X
  obtain ⟨rfl, hn⟩ := am_nx_spec hins (show am_nx M j 1 = true from hI)
  obtain ⟨x, r, rfl, es2⟩ := am_i1_some es
  clear es
  have es := es2
  clear es2
  cases es
  refine lv_ineg hx hb hdec ?_
  exact am_fin0 (kk H locs LS X) (congrArg (fun z => F0 m z LS _) hn)
set_option maxHeartbeats 1000000 in
theorem ss_i2l {M : am_M} {j len a bb : Nat} {v : Value} {sw : List (Int32 × Nat)} {ls st : List Value} {h h' : am_H} {F' : am_F} {LS : Array Slot} (hins : am_ins M j = (.i2l, len, a, bb, v, sw)) (hdec : decode M.2.1 (am_pc M j) = .ok (.i2l, len)) (hI : am_chkI M j (.i2l, len, a, bb, v, sw) = true) (C0 : am_ctx b base aC D L xs p s m args meth c M) (hkd : am_kind (.i2l, len, a, bb, v, sw) = 0) (es : am_step (.i2l, len, a, bb, v, sw) j ls st h = some (F', h')) (X : am_st b base aC D L xs M.2.2.1 s h H locs ls LS) (hcnt : s.heap.size + cells = base + h.2.1) (hcl : cells + (h'.2.1 - h.2.1) ≤ R.cells) (hsl : slots + (h'.2.2 - h.2.2) ≤ R.slots) (hfr : M.2.2.2.2.2.1.1 ≤ R.frames) (hlo : M.2.2.2.2.2.1.2 ≤ R.locals)
    (kk : (∀ (H1 : Heap) (locs1 : List Loc) (LS1 : Array Slot), am_st b base aC D L xs M.2.2.1 s h' H1 locs1 F'.2.1 LS1 → W p l e R s m args below meth c H1 locs1 (cells + (h'.2.1 - h.2.1)) (slots + (h'.2.2 - h.2.2)) Q (F0 m (am_pc M F'.1) LS1 (F'.2.2.map (am_cv b base))))) :
    W p l e R s m args below meth c H locs cells slots Q (F0 m (am_pc M j) LS (st.map (am_cv b base))) := by
  obtain ⟨hx, hb, hml, hr, hown, hts, hlocks, hname, hK, hX, hbb, hbs, hnw, haS, haI⟩ := C0
  obtain ⟨hR, hS0, hS, hlv, hlen⟩ := id X
  obtain ⟨rfl, hn⟩ := am_nx_spec hins (show am_nx M j 1 = true from hI)
  obtain ⟨x, r, rfl, es2⟩ := am_i1_some es
  clear es
  have es := es2
  clear es2
  cases es
  refine lv_i2l hx hb hdec rfl ?_
  exact am_fin0 (kk H locs LS X) (congrArg (fun z => F0 m z LS _) hn)
set_option maxHeartbeats 1000000 in
theorem ss_l2i {M : am_M} {j len a bb : Nat} {v : Value} {sw : List (Int32 × Nat)} {ls st : List Value} {h h' : am_H} {F' : am_F} {LS : Array Slot} (hins : am_ins M j = (.l2i, len, a, bb, v, sw)) (hdec : decode M.2.1 (am_pc M j) = .ok (.l2i, len)) (hI : am_chkI M j (.l2i, len, a, bb, v, sw) = true) (C0 : am_ctx b base aC D L xs p s m args meth c M) (hkd : am_kind (.l2i, len, a, bb, v, sw) = 0) (es : am_step (.l2i, len, a, bb, v, sw) j ls st h = some (F', h')) (X : am_st b base aC D L xs M.2.2.1 s h H locs ls LS) (hcnt : s.heap.size + cells = base + h.2.1) (hcl : cells + (h'.2.1 - h.2.1) ≤ R.cells) (hsl : slots + (h'.2.2 - h.2.2) ≤ R.slots) (hfr : M.2.2.2.2.2.1.1 ≤ R.frames) (hlo : M.2.2.2.2.2.1.2 ≤ R.locals)
    (kk : (∀ (H1 : Heap) (locs1 : List Loc) (LS1 : Array Slot), am_st b base aC D L xs M.2.2.1 s h' H1 locs1 F'.2.1 LS1 → W p l e R s m args below meth c H1 locs1 (cells + (h'.2.1 - h.2.1)) (slots + (h'.2.2 - h.2.2)) Q (F0 m (am_pc M F'.1) LS1 (F'.2.2.map (am_cv b base))))) :
    W p l e R s m args below meth c H locs cells slots Q (F0 m (am_pc M j) LS (st.map (am_cv b base))) := by
  obtain ⟨hx, hb, hml, hr, hown, hts, hlocks, hname, hK, hX, hbb, hbs, hnw, haS, haI⟩ := C0
  obtain ⟨hR, hS0, hS, hlv, hlen⟩ := id X
  obtain ⟨rfl, hn⟩ := am_nx_spec hins (show am_nx M j 1 = true from hI)
  obtain ⟨x, r, rfl, es2⟩ := am_l1_some es
  clear es
  have es := es2
  clear es2
  cases es
  refine lv_l2i hx hb hdec rfl ?_
  exact am_fin0 (kk H locs LS X) (congrArg (fun z => F0 m z LS _) hn)
set_option maxHeartbeats 1000000 in
theorem ss_dup {M : am_M} {j len a bb : Nat} {v : Value} {sw : List (Int32 × Nat)} {ls st : List Value} {h h' : am_H} {F' : am_F} {LS : Array Slot} (hins : am_ins M j = (.dup, len, a, bb, v, sw)) (hdec : decode M.2.1 (am_pc M j) = .ok (.dup, len)) (hI : am_chkI M j (.dup, len, a, bb, v, sw) = true) (C0 : am_ctx b base aC D L xs p s m args meth c M) (hkd : am_kind (.dup, len, a, bb, v, sw) = 0) (es : am_step (.dup, len, a, bb, v, sw) j ls st h = some (F', h')) (X : am_st b base aC D L xs M.2.2.1 s h H locs ls LS) (hcnt : s.heap.size + cells = base + h.2.1) (hcl : cells + (h'.2.1 - h.2.1) ≤ R.cells) (hsl : slots + (h'.2.2 - h.2.2) ≤ R.slots) (hfr : M.2.2.2.2.2.1.1 ≤ R.frames) (hlo : M.2.2.2.2.2.1.2 ≤ R.locals)
    (kk : (∀ (H1 : Heap) (locs1 : List Loc) (LS1 : Array Slot), am_st b base aC D L xs M.2.2.1 s h' H1 locs1 F'.2.1 LS1 → W p l e R s m args below meth c H1 locs1 (cells + (h'.2.1 - h.2.1)) (slots + (h'.2.2 - h.2.2)) Q (F0 m (am_pc M F'.1) LS1 (F'.2.2.map (am_cv b base))))) :
    W p l e R s m args below meth c H locs cells slots Q (F0 m (am_pc M j) LS (st.map (am_cv b base))) := by
  obtain ⟨hx, hb, hml, hr, hown, hts, hlocks, hname, hK, hX, hbb, hbs, hnw, haS, haI⟩ := C0
  obtain ⟨hR, hS0, hS, hlv, hlen⟩ := id X
  obtain ⟨rfl, hn⟩ := am_nx_spec hins (show am_nx M j 1 = true from hI)
  simp only [am_step] at es
  split at es
  · split at es
    · rename_i hl
      cases es
      refine lv_dup hx hb hdec (by rw [am_cv_cat]; exact am_isL_cat hl) ?_
      exact am_fin0 (kk H locs LS X) (congrArg (fun z => F0 m z LS _) hn)
    · cases es
  · cases es
set_option maxHeartbeats 1000000 in
theorem ss_ifCond {M : am_M} {j len a bb : Nat} {v : Value} {sw : List (Int32 × Nat)} {cd : ClassFile.Cond} {off : Int} {ls st : List Value} {h h' : am_H} {F' : am_F} {LS : Array Slot} (hins : am_ins M j = (.ifCond cd off, len, a, bb, v, sw)) (hdec : decode M.2.1 (am_pc M j) = .ok (.ifCond cd off, len)) (hI : am_chkI M j (.ifCond cd off, len, a, bb, v, sw) = true) (C0 : am_ctx b base aC D L xs p s m args meth c M) (hkd : am_kind (.ifCond cd off, len, a, bb, v, sw) = 0) (es : am_step (.ifCond cd off, len, a, bb, v, sw) j ls st h = some (F', h')) (X : am_st b base aC D L xs M.2.2.1 s h H locs ls LS) (hcnt : s.heap.size + cells = base + h.2.1) (hcl : cells + (h'.2.1 - h.2.1) ≤ R.cells) (hsl : slots + (h'.2.2 - h.2.2) ≤ R.slots) (hfr : M.2.2.2.2.2.1.1 ≤ R.frames) (hlo : M.2.2.2.2.2.1.2 ≤ R.locals)
    (kk : (∀ (H1 : Heap) (locs1 : List Loc) (LS1 : Array Slot), am_st b base aC D L xs M.2.2.1 s h' H1 locs1 F'.2.1 LS1 → W p l e R s m args below meth c H1 locs1 (cells + (h'.2.1 - h.2.1)) (slots + (h'.2.2 - h.2.2)) Q (F0 m (am_pc M F'.1) LS1 (F'.2.2.map (am_cv b base))))) :
    W p l e R s m args below meth c H locs cells slots Q (F0 m (am_pc M j) LS (st.map (am_cv b base))) := by
  obtain ⟨hx, hb, hml, hr, hown, hts, hlocks, hname, hK, hX, hbb, hbs, hnw, haS, haI⟩ := C0
  obtain ⟨hR, hS0, hS, hlv, hlen⟩ := id X
  simp only [am_chkI, Bool.and_eq_true] at hI
  obtain ⟨hnx, hj⟩ := hI
  obtain ⟨rfl, hn⟩ := am_nx_spec hins hnx
  obtain ⟨x, r, rfl, es2⟩ := am_i1_some es
  clear es
  have es := es2
  clear es2
  cases es
  cases cd
  · refine lv_if_eq (tgt := am_pc M a) hx hb hdec (am_jp_spec hj) (fun hc => ?_) (fun hc => ?_)
    · exact am_fin0 (kk H locs LS X) (congrArg (fun z => F0 m (am_pc M z) LS _) (if_pos hc))
    · exact am_fin0 (kk H locs LS X) (congrArg (fun z => F0 m z LS _) ((congrArg (am_pc M) (if_neg hc)).trans hn))
  · refine lv_if_ne (tgt := am_pc M a) hx hb hdec (am_jp_spec hj) (fun hc => ?_) (fun hc => ?_)
    · exact am_fin0 (kk H locs LS X) (congrArg (fun z => F0 m (am_pc M z) LS _) (if_neg hc))
    · exact am_fin0 (kk H locs LS X) (congrArg (fun z => F0 m z LS _) ((congrArg (am_pc M) (if_pos hc)).trans hn))
  · refine lv_if_lt (tgt := am_pc M a) hx hb hdec (am_jp_spec hj) (fun hc => ?_) (fun hc => ?_)
    · exact am_fin0 (kk H locs LS X) (congrArg (fun z => F0 m (am_pc M z) LS _) (if_pos hc))
    · exact am_fin0 (kk H locs LS X) (congrArg (fun z => F0 m z LS _) ((congrArg (am_pc M) (if_neg hc)).trans hn))
  · refine lv_if_ge (tgt := am_pc M a) hx hb hdec (am_jp_spec hj) (fun hc => ?_) (fun hc => ?_)
    · exact am_fin0 (kk H locs LS X) (congrArg (fun z => F0 m (am_pc M z) LS _) (if_pos hc))
    · exact am_fin0 (kk H locs LS X) (congrArg (fun z => F0 m z LS _) ((congrArg (am_pc M) (if_neg hc)).trans hn))
  · refine lv_if_gt (tgt := am_pc M a) hx hb hdec (am_jp_spec hj) (fun hc => ?_) (fun hc => ?_)
    · exact am_fin0 (kk H locs LS X) (congrArg (fun z => F0 m (am_pc M z) LS _) (if_pos hc))
    · exact am_fin0 (kk H locs LS X) (congrArg (fun z => F0 m z LS _) ((congrArg (am_pc M) (if_neg hc)).trans hn))
  · refine lv_if_le (tgt := am_pc M a) hx hb hdec (am_jp_spec hj) (fun hc => ?_) (fun hc => ?_)
    · exact am_fin0 (kk H locs LS X) (congrArg (fun z => F0 m (am_pc M z) LS _) (if_pos hc))
    · exact am_fin0 (kk H locs LS X) (congrArg (fun z => F0 m z LS _) ((congrArg (am_pc M) (if_neg hc)).trans hn))
set_option maxHeartbeats 1000000 in
theorem ss_if_icmp {M : am_M} {j len a bb : Nat} {v : Value} {sw : List (Int32 × Nat)} {cd : ClassFile.Cond} {off : Int} {ls st : List Value} {h h' : am_H} {F' : am_F} {LS : Array Slot} (hins : am_ins M j = (.if_icmp cd off, len, a, bb, v, sw)) (hdec : decode M.2.1 (am_pc M j) = .ok (.if_icmp cd off, len)) (hI : am_chkI M j (.if_icmp cd off, len, a, bb, v, sw) = true) (C0 : am_ctx b base aC D L xs p s m args meth c M) (hkd : am_kind (.if_icmp cd off, len, a, bb, v, sw) = 0) (es : am_step (.if_icmp cd off, len, a, bb, v, sw) j ls st h = some (F', h')) (X : am_st b base aC D L xs M.2.2.1 s h H locs ls LS) (hcnt : s.heap.size + cells = base + h.2.1) (hcl : cells + (h'.2.1 - h.2.1) ≤ R.cells) (hsl : slots + (h'.2.2 - h.2.2) ≤ R.slots) (hfr : M.2.2.2.2.2.1.1 ≤ R.frames) (hlo : M.2.2.2.2.2.1.2 ≤ R.locals)
    (kk : (∀ (H1 : Heap) (locs1 : List Loc) (LS1 : Array Slot), am_st b base aC D L xs M.2.2.1 s h' H1 locs1 F'.2.1 LS1 → W p l e R s m args below meth c H1 locs1 (cells + (h'.2.1 - h.2.1)) (slots + (h'.2.2 - h.2.2)) Q (F0 m (am_pc M F'.1) LS1 (F'.2.2.map (am_cv b base))))) :
    W p l e R s m args below meth c H locs cells slots Q (F0 m (am_pc M j) LS (st.map (am_cv b base))) := by
  obtain ⟨hx, hb, hml, hr, hown, hts, hlocks, hname, hK, hX, hbb, hbs, hnw, haS, haI⟩ := C0
  obtain ⟨hR, hS0, hS, hlv, hlen⟩ := id X
  simp only [am_chkI, Bool.and_eq_true] at hI
  obtain ⟨hnx, hj⟩ := hI
  obtain ⟨rfl, hn⟩ := am_nx_spec hins hnx
  obtain ⟨x, y, r, rfl, es2⟩ := am_i2_some es
  clear es
  have es := es2
  clear es2
  cases es
  cases cd
  · refine lv_icmp_eq (tgt := am_pc M a) hx hb hdec (am_jp_spec hj) (fun hc => ?_) (fun hc => ?_)
    · exact am_fin0 (kk H locs LS X) (congrArg (fun z => F0 m (am_pc M z) LS _) (if_pos hc))
    · exact am_fin0 (kk H locs LS X) (congrArg (fun z => F0 m z LS _) ((congrArg (am_pc M) (if_neg hc)).trans hn))
  · refine lv_icmp_ne (tgt := am_pc M a) hx hb hdec (am_jp_spec hj) (fun hc => ?_) (fun hc => ?_)
    · exact am_fin0 (kk H locs LS X) (congrArg (fun z => F0 m (am_pc M z) LS _) (if_neg hc))
    · exact am_fin0 (kk H locs LS X) (congrArg (fun z => F0 m z LS _) ((congrArg (am_pc M) (if_pos hc)).trans hn))
  · refine lv_icmp_lt (tgt := am_pc M a) hx hb hdec (am_jp_spec hj) (fun hc => ?_) (fun hc => ?_)
    · exact am_fin0 (kk H locs LS X) (congrArg (fun z => F0 m (am_pc M z) LS _) (if_pos hc))
    · exact am_fin0 (kk H locs LS X) (congrArg (fun z => F0 m z LS _) ((congrArg (am_pc M) (if_neg hc)).trans hn))
  · refine lv_icmp_ge (tgt := am_pc M a) hx hb hdec (am_jp_spec hj) (fun hc => ?_) (fun hc => ?_)
    · exact am_fin0 (kk H locs LS X) (congrArg (fun z => F0 m (am_pc M z) LS _) (if_pos hc))
    · exact am_fin0 (kk H locs LS X) (congrArg (fun z => F0 m z LS _) ((congrArg (am_pc M) (if_neg hc)).trans hn))
  · refine lv_icmp_gt (tgt := am_pc M a) hx hb hdec (am_jp_spec hj) (fun hc => ?_) (fun hc => ?_)
    · exact am_fin0 (kk H locs LS X) (congrArg (fun z => F0 m (am_pc M z) LS _) (if_pos hc))
    · exact am_fin0 (kk H locs LS X) (congrArg (fun z => F0 m z LS _) ((congrArg (am_pc M) (if_neg hc)).trans hn))
  · refine lv_icmp_le (tgt := am_pc M a) hx hb hdec (am_jp_spec hj) (fun hc => ?_) (fun hc => ?_)
    · exact am_fin0 (kk H locs LS X) (congrArg (fun z => F0 m (am_pc M z) LS _) (if_pos hc))
    · exact am_fin0 (kk H locs LS X) (congrArg (fun z => F0 m z LS _) ((congrArg (am_pc M) (if_neg hc)).trans hn))
set_option maxHeartbeats 1000000 in
theorem ss_goto {M : am_M} {j len a bb : Nat} {v : Value} {sw : List (Int32 × Nat)} {off : Int} {ls st : List Value} {h h' : am_H} {F' : am_F} {LS : Array Slot} (hins : am_ins M j = (.goto off, len, a, bb, v, sw)) (hdec : decode M.2.1 (am_pc M j) = .ok (.goto off, len)) (hI : am_chkI M j (.goto off, len, a, bb, v, sw) = true) (C0 : am_ctx b base aC D L xs p s m args meth c M) (hkd : am_kind (.goto off, len, a, bb, v, sw) = 0) (es : am_step (.goto off, len, a, bb, v, sw) j ls st h = some (F', h')) (X : am_st b base aC D L xs M.2.2.1 s h H locs ls LS) (hcnt : s.heap.size + cells = base + h.2.1) (hcl : cells + (h'.2.1 - h.2.1) ≤ R.cells) (hsl : slots + (h'.2.2 - h.2.2) ≤ R.slots) (hfr : M.2.2.2.2.2.1.1 ≤ R.frames) (hlo : M.2.2.2.2.2.1.2 ≤ R.locals)
    (kk : (∀ (H1 : Heap) (locs1 : List Loc) (LS1 : Array Slot), am_st b base aC D L xs M.2.2.1 s h' H1 locs1 F'.2.1 LS1 → W p l e R s m args below meth c H1 locs1 (cells + (h'.2.1 - h.2.1)) (slots + (h'.2.2 - h.2.2)) Q (F0 m (am_pc M F'.1) LS1 (F'.2.2.map (am_cv b base))))) :
    W p l e R s m args below meth c H locs cells slots Q (F0 m (am_pc M j) LS (st.map (am_cv b base))) := by
  obtain ⟨hx, hb, hml, hr, hown, hts, hlocks, hname, hK, hX, hbb, hbs, hnw, haS, haI⟩ := C0
  obtain ⟨hR, hS0, hS, hlv, hlen⟩ := id X
  simp only [am_chkI, Bool.and_eq_true, decide_eq_true_eq] at hI
  obtain ⟨rfl, hj⟩ := hI
  cases es
  refine lv_goto (tgt := am_pc M a) hx hb hdec (am_jp_spec hj) ?_
  exact am_fin0 (kk H locs LS X) rfl
set_option maxHeartbeats 1000000 in
theorem ss_tableswitch {M : am_M} {j len a bb : Nat} {v : Value} {sw : List (Int32 × Nat)} {d lo hi : Int} {offs : Array Int} {ls st : List Value} {h h' : am_H} {F' : am_F} {LS : Array Slot} (hins : am_ins M j = (.tableswitch d lo hi offs, len, a, bb, v, sw)) (hdec : decode M.2.1 (am_pc M j) = .ok (.tableswitch d lo hi offs, len)) (hI : am_chkI M j (.tableswitch d lo hi offs, len, a, bb, v, sw) = true) (C0 : am_ctx b base aC D L xs p s m args meth c M) (hkd : am_kind (.tableswitch d lo hi offs, len, a, bb, v, sw) = 0) (es : am_step (.tableswitch d lo hi offs, len, a, bb, v, sw) j ls st h = some (F', h')) (X : am_st b base aC D L xs M.2.2.1 s h H locs ls LS) (hcnt : s.heap.size + cells = base + h.2.1) (hcl : cells + (h'.2.1 - h.2.1) ≤ R.cells) (hsl : slots + (h'.2.2 - h.2.2) ≤ R.slots) (hfr : M.2.2.2.2.2.1.1 ≤ R.frames) (hlo : M.2.2.2.2.2.1.2 ≤ R.locals)
    (kk : (∀ (H1 : Heap) (locs1 : List Loc) (LS1 : Array Slot), am_st b base aC D L xs M.2.2.1 s h' H1 locs1 F'.2.1 LS1 → W p l e R s m args below meth c H1 locs1 (cells + (h'.2.1 - h.2.1)) (slots + (h'.2.2 - h.2.2)) Q (F0 m (am_pc M F'.1) LS1 (F'.2.2.map (am_cv b base))))) :
    W p l e R s m args below meth c H locs cells slots Q (F0 m (am_pc M j) LS (st.map (am_cv b base))) := by
  obtain ⟨hx, hb, hml, hr, hown, hts, hlocks, hname, hK, hX, hbb, hbs, hnw, haS, haI⟩ := C0
  obtain ⟨hR, hS0, hS, hlv, hlen⟩ := id X
  simp only [am_chkI, Bool.and_eq_true, decide_eq_true_eq] at hI
  obtain ⟨hj, hh, hc⟩ := hI
  obtain ⟨x, r, rfl, es2⟩ := am_i1_some es
  clear es
  have es := es2
  clear es2
  cases es
  obtain ⟨r1, r2⟩ := am_tsc_spec (d := a) (x := x) offs.toList lo sw hc
  by_cases q : x.toInt < lo ∨ hi < x.toInt
  · refine lv_tableOut (tgt := am_pc M a) hx hb hdec q (am_jp_spec hj) ?_
    exact am_fin0 (kk H locs LS X) (congrArg (fun z => F0 m (am_pc M z) LS _) (r1 (by omega)))
  · obtain ⟨o, g1, g2⟩ := r2 (by omega) (by omega)
    refine lv_tableIn (tgt := am_pc M (am_sw x a sw)) hx hb hdec (fun z => q (Or.inl z)) (fun z => q (Or.inr z)) (by rw [← Array.getElem?_toList]; exact g1) g2 ?_
    exact am_fin0 (kk H locs LS X) rfl
set_option maxHeartbeats 1000000 in
theorem ss_lookupswitch {M : am_M} {j len a bb : Nat} {v : Value} {sw : List (Int32 × Nat)} {d : Int} {ps : Array (Int × Int)} {ls st : List Value} {h h' : am_H} {F' : am_F} {LS : Array Slot} (hins : am_ins M j = (.lookupswitch d ps, len, a, bb, v, sw)) (hdec : decode M.2.1 (am_pc M j) = .ok (.lookupswitch d ps, len)) (hI : am_chkI M j (.lookupswitch d ps, len, a, bb, v, sw) = true) (C0 : am_ctx b base aC D L xs p s m args meth c M) (hkd : am_kind (.lookupswitch d ps, len, a, bb, v, sw) = 0) (es : am_step (.lookupswitch d ps, len, a, bb, v, sw) j ls st h = some (F', h')) (X : am_st b base aC D L xs M.2.2.1 s h H locs ls LS) (hcnt : s.heap.size + cells = base + h.2.1) (hcl : cells + (h'.2.1 - h.2.1) ≤ R.cells) (hsl : slots + (h'.2.2 - h.2.2) ≤ R.slots) (hfr : M.2.2.2.2.2.1.1 ≤ R.frames) (hlo : M.2.2.2.2.2.1.2 ≤ R.locals)
    (kk : (∀ (H1 : Heap) (locs1 : List Loc) (LS1 : Array Slot), am_st b base aC D L xs M.2.2.1 s h' H1 locs1 F'.2.1 LS1 → W p l e R s m args below meth c H1 locs1 (cells + (h'.2.1 - h.2.1)) (slots + (h'.2.2 - h.2.2)) Q (F0 m (am_pc M F'.1) LS1 (F'.2.2.map (am_cv b base))))) :
    W p l e R s m args below meth c H locs cells slots Q (F0 m (am_pc M j) LS (st.map (am_cv b base))) := by
  obtain ⟨hx, hb, hml, hr, hown, hts, hlocks, hname, hK, hX, hbb, hbs, hnw, haS, haI⟩ := C0
  obtain ⟨hR, hS0, hS, hlv, hlen⟩ := id X
  simp only [am_chkI, Bool.and_eq_true] at hI
  obtain ⟨hj, hp, hc⟩ := hI
  obtain ⟨x, r, rfl, es2⟩ := am_i1_some es
  clear es
  have es := es2
  clear es2
  cases es
  refine lv_lookup (tgt := am_pc M (am_sw x a sw)) hx hb hdec hp rfl (am_lsc_spec (am_jp_spec hj) ps.toList sw hc) ?_
  exact am_fin0 (kk H locs LS X) rfl
set_option maxHeartbeats 1000000 in
theorem ss_getfield {M : am_M} {j len a bb : Nat} {v : Value} {sw : List (Int32 × Nat)} {n : Nat} {ls st : List Value} {h h' : am_H} {F' : am_F} {LS : Array Slot} (hins : am_ins M j = (.getfield n, len, a, bb, v, sw)) (hdec : decode M.2.1 (am_pc M j) = .ok (.getfield n, len)) (hI : am_chkI M j (.getfield n, len, a, bb, v, sw) = true) (C0 : am_ctx b base aC D L xs p s m args meth c M) (hkd : am_kind (.getfield n, len, a, bb, v, sw) = 0) (es : am_step (.getfield n, len, a, bb, v, sw) j ls st h = some (F', h')) (X : am_st b base aC D L xs M.2.2.1 s h H locs ls LS) (hcnt : s.heap.size + cells = base + h.2.1) (hcl : cells + (h'.2.1 - h.2.1) ≤ R.cells) (hsl : slots + (h'.2.2 - h.2.2) ≤ R.slots) (hfr : M.2.2.2.2.2.1.1 ≤ R.frames) (hlo : M.2.2.2.2.2.1.2 ≤ R.locals)
    (kk : (∀ (H1 : Heap) (locs1 : List Loc) (LS1 : Array Slot), am_st b base aC D L xs M.2.2.1 s h' H1 locs1 F'.2.1 LS1 → W p l e R s m args below meth c H1 locs1 (cells + (h'.2.1 - h.2.1)) (slots + (h'.2.2 - h.2.2)) Q (F0 m (am_pc M F'.1) LS1 (F'.2.2.map (am_cv b base))))) :
    W p l e R s m args below meth c H locs cells slots Q (F0 m (am_pc M j) LS (st.map (am_cv b base))) := by
  obtain ⟨hx, hb, hml, hr, hown, hts, hlocks, hname, hK, hX, hbb, hbs, hnw, haS, haI⟩ := C0
  obtain ⟨hR, hS0, hS, hlv, hlen⟩ := id X
  simp only [am_chkI, Bool.and_eq_true, decide_eq_true_eq] at hI
  obtain ⟨hnx, hfl⟩ := hI
  obtain ⟨rfl, hn⟩ := am_nx_spec hins hnx
  obtain ⟨a1, r, rfl, es2⟩ := am_r1_some es
  clear es
  have es := es2
  clear es2
  obtain ⟨fs, hc, es⟩ := am_obj_some es
  dsimp only at hc es
  obtain ⟨hci, hkf⟩ := w_fln _ hfl
  dsimp only at hci hkf
  split at es
  · rename_i w hw
    cases es
    obtain ⟨k0, rfl, hk0⟩ := am_place_obj hR hS0 hc (by omega)
    have hat : (am_ws b base aC h)[k0]? = some (am_ad b base (k0 + 1), .inr (a, fs.map (am_cv b base))) := by
      rw [am_ws_at hk0, hc]
      rfl
    refine va_get (C := am_own a) (T := am_ft a) (N := am_fn a) (ref := (am_ft a bb).1) (v := am_cv b base w) hx hb hts (w_lay hci) hown hK hR.1 k0 hat (am_cls hci) bb hkf (hts _ (w_fl _ hfl)) (fun _ q => q) (by rw [List.getElem?_map, hw]; rfl) hdec ?_
    exact am_fin0 (kk H locs LS X) (congrArg (fun z => F0 m z LS _) hn)
  · cases es
set_option maxHeartbeats 1000000 in
theorem ss_putfield {M : am_M} {j len a bb : Nat} {v : Value} {sw : List (Int32 × Nat)} {n : Nat} {ls st : List Value} {h h' : am_H} {F' : am_F} {LS : Array Slot} (hins : am_ins M j = (.putfield n, len, a, bb, v, sw)) (hdec : decode M.2.1 (am_pc M j) = .ok (.putfield n, len)) (hI : am_chkI M j (.putfield n, len, a, bb, v, sw) = true) (C0 : am_ctx b base aC D L xs p s m args meth c M) (hkd : am_kind (.putfield n, len, a, bb, v, sw) = 0) (es : am_step (.putfield n, len, a, bb, v, sw) j ls st h = some (F', h')) (X : am_st b base aC D L xs M.2.2.1 s h H locs ls LS) (hcnt : s.heap.size + cells = base + h.2.1) (hcl : cells + (h'.2.1 - h.2.1) ≤ R.cells) (hsl : slots + (h'.2.2 - h.2.2) ≤ R.slots) (hfr : M.2.2.2.2.2.1.1 ≤ R.frames) (hlo : M.2.2.2.2.2.1.2 ≤ R.locals)
    (kk : (∀ (H1 : Heap) (locs1 : List Loc) (LS1 : Array Slot), am_st b base aC D L xs M.2.2.1 s h' H1 locs1 F'.2.1 LS1 → W p l e R s m args below meth c H1 locs1 (cells + (h'.2.1 - h.2.1)) (slots + (h'.2.2 - h.2.2)) Q (F0 m (am_pc M F'.1) LS1 (F'.2.2.map (am_cv b base))))) :
    W p l e R s m args below meth c H locs cells slots Q (F0 m (am_pc M j) LS (st.map (am_cv b base))) := by
  obtain ⟨hx, hb, hml, hr, hown, hts, hlocks, hname, hK, hX, hbb, hbs, hnw, haS, haI⟩ := C0
  obtain ⟨hR, hS0, hS, hlv, hlen⟩ := id X
  simp only [am_chkI, Bool.and_eq_true, decide_eq_true_eq] at hI
  obtain ⟨hnx, hfl, hfin⟩ := hI
  obtain ⟨rfl, hn⟩ := am_nx_spec hins hnx
  simp only [am_step] at es
  split at es
  · rename_i w a1 r
    obtain ⟨fs, hc, es⟩ := am_obj_some es
    obtain ⟨hci, hkf⟩ := w_fln _ hfl
    dsimp only at hci hkf
    split at es
    · rename_i hcond
      cases es
      obtain ⟨k0, rfl, hk0⟩ := am_place_obj hR hS0 hc (by omega)
      have hat : (am_ws b base aC h)[k0]? = some (am_ad b base (k0 + 1), .inr (a, fs.map (am_cv b base))) := by
        rw [am_ws_at hk0, hc]
        rfl
      obtain ⟨n1, n2⟩ := am_fit_ok (b := b) (base := base) hcond.2
      have dn : ∀ (H1 : Heap) (locs1 : List Loc), va_P D am_cl ((am_ws b base aC h).set k0 (am_ad b base (k0 + 1), .inr (a, (fs.map (am_cv b base)).set bb (am_cv b base w)))) H1 → va_S (am_A base) s.heap H1 locs1 → W p l e R s m args below meth c H1 locs1 cells slots Q (F0 m (am_pc M j + 3) LS (r.map (am_cv b base))) := by
        intro H1 locs1 hP1 hS1
        rw [← List.map_set] at hP1
        exact am_fin0 (kk H1 locs1 LS ⟨am_rel_set (.inr (a, fs.set bb w)) hR hk0 hP1, am_scr_set _ hS0, hS1, hlv, hlen⟩) (congrArg (fun z => F0 m z LS _) hn)
      rcases hfin with hf | ⟨hf, hi1, hi2⟩
      · exact va_put (C := am_own a) (T := am_ft a) (N := am_fn a) (ref := (am_ft a bb).1) hx hb hts (w_lay hci) (am_fty a) (am_ty_ok hci) (am_nm_ok hci) hown hK hR.1 (am_ws_D h) hS k0 hat (am_cls hci) bb hkf (hts _ (w_fl _ hfl)) (fun _ q => q) hf (am_ty_ok hci bb hkf) n1 n2 (by rw [List.length_map]; exact hcond.1) hdec (fun H1 locs1 hP1 _ hS1 => dn H1 locs1 hP1 hS1)
      · exact va_putF (C := am_own a) (T := am_ft a) (N := am_fn a) (ref := (am_ft a bb).1) hx hb hts (w_lay hci) (am_fty a) (am_ty_ok hci) (am_nm_ok hci) hown hK hR.1 (am_ws_D h) hS k0 hat (am_cls hci) bb hkf (hts _ (w_fl _ hfl)) (fun _ q => q) hf (hname.trans hi1) hi2 (am_ty_ok hci bb hkf) n1 n2 (by rw [List.length_map]; exact hcond.1) hdec (fun H1 locs1 hP1 _ hS1 => dn H1 locs1 hP1 hS1)
    · cases es
  · cases es
set_option maxHeartbeats 1000000 in
theorem ss_iaload {M : am_M} {j len a bb : Nat} {v : Value} {sw : List (Int32 × Nat)} {ls st : List Value} {h h' : am_H} {F' : am_F} {LS : Array Slot} (hins : am_ins M j = (.iaload, len, a, bb, v, sw)) (hdec : decode M.2.1 (am_pc M j) = .ok (.iaload, len)) (hI : am_chkI M j (.iaload, len, a, bb, v, sw) = true) (C0 : am_ctx b base aC D L xs p s m args meth c M) (hkd : am_kind (.iaload, len, a, bb, v, sw) = 0) (es : am_step (.iaload, len, a, bb, v, sw) j ls st h = some (F', h')) (X : am_st b base aC D L xs M.2.2.1 s h H locs ls LS) (hcnt : s.heap.size + cells = base + h.2.1) (hcl : cells + (h'.2.1 - h.2.1) ≤ R.cells) (hsl : slots + (h'.2.2 - h.2.2) ≤ R.slots) (hfr : M.2.2.2.2.2.1.1 ≤ R.frames) (hlo : M.2.2.2.2.2.1.2 ≤ R.locals)
    (kk : (∀ (H1 : Heap) (locs1 : List Loc) (LS1 : Array Slot), am_st b base aC D L xs M.2.2.1 s h' H1 locs1 F'.2.1 LS1 → W p l e R s m args below meth c H1 locs1 (cells + (h'.2.1 - h.2.1)) (slots + (h'.2.2 - h.2.2)) Q (F0 m (am_pc M F'.1) LS1 (F'.2.2.map (am_cv b base))))) :
    W p l e R s m args below meth c H locs cells slots Q (F0 m (am_pc M j) LS (st.map (am_cv b base))) := by
  obtain ⟨hx, hb, hml, hr, hown, hts, hlocks, hname, hK, hX, hbb, hbs, hnw, haS, haI⟩ := C0
  obtain ⟨hR, hS0, hS, hlv, hlen⟩ := id X
  obtain ⟨rfl, hn⟩ := am_nx_spec hins (show am_nx M j 1 = true from hI)
  simp only [am_step] at es
  split at es
  · rename_i i a1 r
    obtain ⟨n, f, hc, es⟩ := am_ari_some es
    split at es
    · cases es
    · rename_i hin
      cases es
      by_cases h0 : a1 = 0
      · subst h0
        rcases hS0 with q | q
        · rw [hc] at q
          unfold am_dead at q
          cases q
        · rw [hc] at q
          cases q
          refine va_sld hx hb hX (Nat.lt_of_lt_of_le hbb hbs) (Nat.not_le.mpr hbb) hS hin hdec ?_
          exact am_fin0 (kk H locs LS X) (congrArg (fun z => F0 m z LS _) hn)
      · obtain ⟨k0, rfl, hk0⟩ := am_live hR h0 (by rw [hc]; unfold am_dead; exact fun q => by cases q)
        have hat : (am_ws b base aC h)[k0]? = some (am_ad b base (k0 + 1), .inl (aC .int, n, .inl f)) := by
          rw [am_ws_at hk0, hc]
          rfl
        refine va_iald hx hb hK hR.1 k0 0 hat rfl hin hdec ?_
        exact am_fin0 (kk H locs LS X) (congrArg (fun z => F0 m z LS _) hn)
  · cases es
set_option maxHeartbeats 1000000 in
theorem ss_baload {M : am_M} {j len a bb : Nat} {v : Value} {sw : List (Int32 × Nat)} {ls st : List Value} {h h' : am_H} {F' : am_F} {LS : Array Slot} (hins : am_ins M j = (.baload, len, a, bb, v, sw)) (hdec : decode M.2.1 (am_pc M j) = .ok (.baload, len)) (hI : am_chkI M j (.baload, len, a, bb, v, sw) = true) (C0 : am_ctx b base aC D L xs p s m args meth c M) (hkd : am_kind (.baload, len, a, bb, v, sw) = 0) (es : am_step (.baload, len, a, bb, v, sw) j ls st h = some (F', h')) (X : am_st b base aC D L xs M.2.2.1 s h H locs ls LS) (hcnt : s.heap.size + cells = base + h.2.1) (hcl : cells + (h'.2.1 - h.2.1) ≤ R.cells) (hsl : slots + (h'.2.2 - h.2.2) ≤ R.slots) (hfr : M.2.2.2.2.2.1.1 ≤ R.frames) (hlo : M.2.2.2.2.2.1.2 ≤ R.locals)
    (kk : (∀ (H1 : Heap) (locs1 : List Loc) (LS1 : Array Slot), am_st b base aC D L xs M.2.2.1 s h' H1 locs1 F'.2.1 LS1 → W p l e R s m args below meth c H1 locs1 (cells + (h'.2.1 - h.2.1)) (slots + (h'.2.2 - h.2.2)) Q (F0 m (am_pc M F'.1) LS1 (F'.2.2.map (am_cv b base))))) :
    W p l e R s m args below meth c H locs cells slots Q (F0 m (am_pc M j) LS (st.map (am_cv b base))) := by
  obtain ⟨hx, hb, hml, hr, hown, hts, hlocks, hname, hK, hX, hbb, hbs, hnw, haS, haI⟩ := C0
  obtain ⟨hR, hS0, hS, hlv, hlen⟩ := id X
  obtain ⟨rfl, hn⟩ := am_nx_spec hins (show am_nx M j 1 = true from hI)
  simp only [am_step] at es
  split at es
  · rename_i i a1 r
    obtain ⟨n, f, hc, es⟩ := am_arz_some es
    split at es
    · cases es
    · rename_i hin
      cases es
      obtain ⟨k0, rfl, hk0⟩ := (am_place hR hS0 (by rw [hc]; unfold am_dead; exact fun q => by cases q) (by rw [hc]; exact fun q => by cases q))
      have hat : (am_ws b base aC h)[k0]? = some (am_ad b base (k0 + 1), .inl (aC .boolean, n, .inl f)) := by
        rw [am_ws_at hk0, hc]
        rfl
      refine va_zald hx hb hK hR.1 k0 1 hat rfl hin hdec ?_
      exact am_fin0 (kk H locs LS X) (congrArg (fun z => F0 m z LS _) hn)
  · cases es
set_option maxHeartbeats 1000000 in
theorem ss_laload {M : am_M} {j len a bb : Nat} {v : Value} {sw : List (Int32 × Nat)} {ls st : List Value} {h h' : am_H} {F' : am_F} {LS : Array Slot} (hins : am_ins M j = (.laload, len, a, bb, v, sw)) (hdec : decode M.2.1 (am_pc M j) = .ok (.laload, len)) (hI : am_chkI M j (.laload, len, a, bb, v, sw) = true) (C0 : am_ctx b base aC D L xs p s m args meth c M) (hkd : am_kind (.laload, len, a, bb, v, sw) = 0) (es : am_step (.laload, len, a, bb, v, sw) j ls st h = some (F', h')) (X : am_st b base aC D L xs M.2.2.1 s h H locs ls LS) (hcnt : s.heap.size + cells = base + h.2.1) (hcl : cells + (h'.2.1 - h.2.1) ≤ R.cells) (hsl : slots + (h'.2.2 - h.2.2) ≤ R.slots) (hfr : M.2.2.2.2.2.1.1 ≤ R.frames) (hlo : M.2.2.2.2.2.1.2 ≤ R.locals)
    (kk : (∀ (H1 : Heap) (locs1 : List Loc) (LS1 : Array Slot), am_st b base aC D L xs M.2.2.1 s h' H1 locs1 F'.2.1 LS1 → W p l e R s m args below meth c H1 locs1 (cells + (h'.2.1 - h.2.1)) (slots + (h'.2.2 - h.2.2)) Q (F0 m (am_pc M F'.1) LS1 (F'.2.2.map (am_cv b base))))) :
    W p l e R s m args below meth c H locs cells slots Q (F0 m (am_pc M j) LS (st.map (am_cv b base))) := by
  obtain ⟨hx, hb, hml, hr, hown, hts, hlocks, hname, hK, hX, hbb, hbs, hnw, haS, haI⟩ := C0
  obtain ⟨hR, hS0, hS, hlv, hlen⟩ := id X
  obtain ⟨rfl, hn⟩ := am_nx_spec hins (show am_nx M j 1 = true from hI)
  simp only [am_step] at es
  split at es
  · rename_i i a1 r
    obtain ⟨n, f, hc, es⟩ := am_arl_some es
    split at es
    · cases es
    · rename_i hin
      cases es
      obtain ⟨k0, rfl, hk0⟩ := (am_place hR hS0 (by rw [hc]; unfold am_dead; exact fun q => by cases q) (by rw [hc]; exact fun q => by cases q))
      have hat : (am_ws b base aC h)[k0]? = some (am_ad b base (k0 + 1), .inl (aC .long, n, .inr (.inl f))) := by
        rw [am_ws_at hk0, hc]
        rfl
      refine va_lald hx hb hK hR.1 k0 2 hat rfl hin hdec ?_
      exact am_fin0 (kk H locs LS X) (congrArg (fun z => F0 m z LS _) hn)
  · cases es
set_option maxHeartbeats 1000000 in
theorem ss_aaload {M : am_M} {j len a bb : Nat} {v : Value} {sw : List (Int32 × Nat)} {ls st : List Value} {h h' : am_H} {F' : am_F} {LS : Array Slot} (hins : am_ins M j = (.aaload, len, a, bb, v, sw)) (hdec : decode M.2.1 (am_pc M j) = .ok (.aaload, len)) (hI : am_chkI M j (.aaload, len, a, bb, v, sw) = true) (C0 : am_ctx b base aC D L xs p s m args meth c M) (hkd : am_kind (.aaload, len, a, bb, v, sw) = 0) (es : am_step (.aaload, len, a, bb, v, sw) j ls st h = some (F', h')) (X : am_st b base aC D L xs M.2.2.1 s h H locs ls LS) (hcnt : s.heap.size + cells = base + h.2.1) (hcl : cells + (h'.2.1 - h.2.1) ≤ R.cells) (hsl : slots + (h'.2.2 - h.2.2) ≤ R.slots) (hfr : M.2.2.2.2.2.1.1 ≤ R.frames) (hlo : M.2.2.2.2.2.1.2 ≤ R.locals)
    (kk : (∀ (H1 : Heap) (locs1 : List Loc) (LS1 : Array Slot), am_st b base aC D L xs M.2.2.1 s h' H1 locs1 F'.2.1 LS1 → W p l e R s m args below meth c H1 locs1 (cells + (h'.2.1 - h.2.1)) (slots + (h'.2.2 - h.2.2)) Q (F0 m (am_pc M F'.1) LS1 (F'.2.2.map (am_cv b base))))) :
    W p l e R s m args below meth c H locs cells slots Q (F0 m (am_pc M j) LS (st.map (am_cv b base))) := by
  obtain ⟨hx, hb, hml, hr, hown, hts, hlocks, hname, hK, hX, hbb, hbs, hnw, haS, haI⟩ := C0
  obtain ⟨hR, hS0, hS, hlv, hlen⟩ := id X
  obtain ⟨rfl, hn⟩ := am_nx_spec hins (show am_nx M j 1 = true from hI)
  simp only [am_step] at es
  split at es
  · rename_i i a1 r
    obtain ⟨C, n, f, hc, es⟩ := am_arq_some es
    rcases am_oc_some es with ⟨rfl, es⟩ | ⟨rfl, es⟩
    · split at es
      · cases es
      · rename_i hin
        split at es
        · rename_i y hy
          cases es
          obtain ⟨k0, rfl, hk0⟩ := (am_place hR hS0 (by rw [hc]; unfold am_dead; exact fun q => by cases q) (by rw [hc]; exact fun q => by cases q))
          have hat : (am_ws b base aC h)[k0]? = some (am_ad b base (k0 + 1), .inl (aC (.object "SpiteLine$Scene"), n, .inr (.inr (.inr (.inr (fun j => (f j).map (am_ad b base))))))) := by
            rw [am_ws_at hk0, hc]
            rfl
          refine va_aldq hx hb hK hR.1 k0 3 hat rfl hin hdec ?_
          exact am_fin0 (kk H locs LS X) (by
            show F0 m (am_pc M (j + 1)) LS (am_cv b base (.ref y) :: r.map (am_cv b base)) = F0 m (am_pc M j + 1) LS (va_rf ((f i.toNatClampNeg).map (am_ad b base)) :: r.map (am_cv b base))
            rw [hy, hn]
            rfl)
        · cases es
    · split at es
      · cases es
      · rename_i hin
        split at es
        · rename_i y hy
          cases es
          obtain ⟨k0, rfl, hk0⟩ := (am_place hR hS0 (by rw [hc]; unfold am_dead; exact fun q => by cases q) (by rw [hc]; exact fun q => by cases q))
          have hat : (am_ws b base aC h)[k0]? = some (am_ad b base (k0 + 1), .inl (aC (.object "SpiteLine$Image"), n, .inr (.inr (.inr (.inr (fun j => (f j).map (am_ad b base))))))) := by
            rw [am_ws_at hk0, hc]
            rfl
          refine va_aldq hx hb hK hR.1 k0 4 hat rfl hin hdec ?_
          exact am_fin0 (kk H locs LS X) (by
            show F0 m (am_pc M (j + 1)) LS (am_cv b base (.ref y) :: r.map (am_cv b base)) = F0 m (am_pc M j + 1) LS (va_rf ((f i.toNatClampNeg).map (am_ad b base)) :: r.map (am_cv b base))
            rw [hy, hn]
            rfl)
        · cases es
  · cases es
set_option maxHeartbeats 1000000 in
theorem ss_iastore {M : am_M} {j len a bb : Nat} {v : Value} {sw : List (Int32 × Nat)} {ls st : List Value} {h h' : am_H} {F' : am_F} {LS : Array Slot} (hins : am_ins M j = (.iastore, len, a, bb, v, sw)) (hdec : decode M.2.1 (am_pc M j) = .ok (.iastore, len)) (hI : am_chkI M j (.iastore, len, a, bb, v, sw) = true) (C0 : am_ctx b base aC D L xs p s m args meth c M) (hkd : am_kind (.iastore, len, a, bb, v, sw) = 0) (es : am_step (.iastore, len, a, bb, v, sw) j ls st h = some (F', h')) (X : am_st b base aC D L xs M.2.2.1 s h H locs ls LS) (hcnt : s.heap.size + cells = base + h.2.1) (hcl : cells + (h'.2.1 - h.2.1) ≤ R.cells) (hsl : slots + (h'.2.2 - h.2.2) ≤ R.slots) (hfr : M.2.2.2.2.2.1.1 ≤ R.frames) (hlo : M.2.2.2.2.2.1.2 ≤ R.locals)
    (kk : (∀ (H1 : Heap) (locs1 : List Loc) (LS1 : Array Slot), am_st b base aC D L xs M.2.2.1 s h' H1 locs1 F'.2.1 LS1 → W p l e R s m args below meth c H1 locs1 (cells + (h'.2.1 - h.2.1)) (slots + (h'.2.2 - h.2.2)) Q (F0 m (am_pc M F'.1) LS1 (F'.2.2.map (am_cv b base))))) :
    W p l e R s m args below meth c H locs cells slots Q (F0 m (am_pc M j) LS (st.map (am_cv b base))) := by
  obtain ⟨hx, hb, hml, hr, hown, hts, hlocks, hname, hK, hX, hbb, hbs, hnw, haS, haI⟩ := C0
  obtain ⟨hR, hS0, hS, hlv, hlen⟩ := id X
  obtain ⟨rfl, hn⟩ := am_nx_spec hins (show am_nx M j 1 = true from hI)
  simp only [am_step] at es
  split at es
  · rename_i x i a1 r
    obtain ⟨n, f, hc, es⟩ := am_ari_some es
    split at es
    · cases es
    · rename_i hin
      cases es
      obtain ⟨k0, rfl, hk0⟩ := am_live hR (fun q => hin (Or.inl q)) (by rw [hc]; unfold am_dead; exact fun q => by cases q)
      have hat : (am_ws b base aC h)[k0]? = some (am_ad b base (k0 + 1), .inl (aC .int, n, .inl f)) := by
        rw [am_ws_at hk0, hc]
        rfl
      refine va_iast hx hb hK hR.1 (am_ws_D h) hS k0 0 hat rfl (fun q => hin (Or.inr q)) hdec (fun H1 locs1 hP1 _ hS1 => ?_)
      exact am_fin0 (kk H1 locs1 LS ⟨am_rel_set (.inl (.int, n, .inl (upd f i.toNatClampNeg x))) hR hk0 hP1, am_scr_set _ hS0, hS1, hlv, hlen⟩) (congrArg (fun z => F0 m z LS _) hn)
  · cases es
set_option maxHeartbeats 1000000 in
theorem ss_bastore {M : am_M} {j len a bb : Nat} {v : Value} {sw : List (Int32 × Nat)} {ls st : List Value} {h h' : am_H} {F' : am_F} {LS : Array Slot} (hins : am_ins M j = (.bastore, len, a, bb, v, sw)) (hdec : decode M.2.1 (am_pc M j) = .ok (.bastore, len)) (hI : am_chkI M j (.bastore, len, a, bb, v, sw) = true) (C0 : am_ctx b base aC D L xs p s m args meth c M) (hkd : am_kind (.bastore, len, a, bb, v, sw) = 0) (es : am_step (.bastore, len, a, bb, v, sw) j ls st h = some (F', h')) (X : am_st b base aC D L xs M.2.2.1 s h H locs ls LS) (hcnt : s.heap.size + cells = base + h.2.1) (hcl : cells + (h'.2.1 - h.2.1) ≤ R.cells) (hsl : slots + (h'.2.2 - h.2.2) ≤ R.slots) (hfr : M.2.2.2.2.2.1.1 ≤ R.frames) (hlo : M.2.2.2.2.2.1.2 ≤ R.locals)
    (kk : (∀ (H1 : Heap) (locs1 : List Loc) (LS1 : Array Slot), am_st b base aC D L xs M.2.2.1 s h' H1 locs1 F'.2.1 LS1 → W p l e R s m args below meth c H1 locs1 (cells + (h'.2.1 - h.2.1)) (slots + (h'.2.2 - h.2.2)) Q (F0 m (am_pc M F'.1) LS1 (F'.2.2.map (am_cv b base))))) :
    W p l e R s m args below meth c H locs cells slots Q (F0 m (am_pc M j) LS (st.map (am_cv b base))) := by
  obtain ⟨hx, hb, hml, hr, hown, hts, hlocks, hname, hK, hX, hbb, hbs, hnw, haS, haI⟩ := C0
  obtain ⟨hR, hS0, hS, hlv, hlen⟩ := id X
  obtain ⟨rfl, hn⟩ := am_nx_spec hins (show am_nx M j 1 = true from hI)
  simp only [am_step] at es
  split at es
  · rename_i x i a1 r
    obtain ⟨n, f, hc, es⟩ := am_arz_some es
    split at es
    · cases es
    · rename_i hin
      cases es
      obtain ⟨k0, rfl, hk0⟩ := (am_place hR hS0 (by rw [hc]; unfold am_dead; exact fun q => by cases q) (by rw [hc]; exact fun q => by cases q))
      have hat : (am_ws b base aC h)[k0]? = some (am_ad b base (k0 + 1), .inl (aC .boolean, n, .inl f)) := by
        rw [am_ws_at hk0, hc]
        rfl
      refine va_zast hx hb hK hR.1 (am_ws_D h) hS k0 1 hat rfl hin hdec (fun H1 locs1 hP1 _ hS1 => ?_)
      exact am_fin0 (kk H1 locs1 LS ⟨am_rel_set (.inl (.boolean, n, .inl (upd f i.toNatClampNeg (x &&& 1)))) hR hk0 hP1, am_scr_set _ hS0, hS1, hlv, hlen⟩) (congrArg (fun z => F0 m z LS _) hn)
  · cases es
set_option maxHeartbeats 1000000 in
theorem ss_lastore {M : am_M} {j len a bb : Nat} {v : Value} {sw : List (Int32 × Nat)} {ls st : List Value} {h h' : am_H} {F' : am_F} {LS : Array Slot} (hins : am_ins M j = (.lastore, len, a, bb, v, sw)) (hdec : decode M.2.1 (am_pc M j) = .ok (.lastore, len)) (hI : am_chkI M j (.lastore, len, a, bb, v, sw) = true) (C0 : am_ctx b base aC D L xs p s m args meth c M) (hkd : am_kind (.lastore, len, a, bb, v, sw) = 0) (es : am_step (.lastore, len, a, bb, v, sw) j ls st h = some (F', h')) (X : am_st b base aC D L xs M.2.2.1 s h H locs ls LS) (hcnt : s.heap.size + cells = base + h.2.1) (hcl : cells + (h'.2.1 - h.2.1) ≤ R.cells) (hsl : slots + (h'.2.2 - h.2.2) ≤ R.slots) (hfr : M.2.2.2.2.2.1.1 ≤ R.frames) (hlo : M.2.2.2.2.2.1.2 ≤ R.locals)
    (kk : (∀ (H1 : Heap) (locs1 : List Loc) (LS1 : Array Slot), am_st b base aC D L xs M.2.2.1 s h' H1 locs1 F'.2.1 LS1 → W p l e R s m args below meth c H1 locs1 (cells + (h'.2.1 - h.2.1)) (slots + (h'.2.2 - h.2.2)) Q (F0 m (am_pc M F'.1) LS1 (F'.2.2.map (am_cv b base))))) :
    W p l e R s m args below meth c H locs cells slots Q (F0 m (am_pc M j) LS (st.map (am_cv b base))) := by
  obtain ⟨hx, hb, hml, hr, hown, hts, hlocks, hname, hK, hX, hbb, hbs, hnw, haS, haI⟩ := C0
  obtain ⟨hR, hS0, hS, hlv, hlen⟩ := id X
  obtain ⟨rfl, hn⟩ := am_nx_spec hins (show am_nx M j 1 = true from hI)
  simp only [am_step] at es
  split at es
  · rename_i x i a1 r
    obtain ⟨n, f, hc, es⟩ := am_arl_some es
    split at es
    · cases es
    · rename_i hin
      cases es
      obtain ⟨k0, rfl, hk0⟩ := (am_place hR hS0 (by rw [hc]; unfold am_dead; exact fun q => by cases q) (by rw [hc]; exact fun q => by cases q))
      have hat : (am_ws b base aC h)[k0]? = some (am_ad b base (k0 + 1), .inl (aC .long, n, .inr (.inl f))) := by
        rw [am_ws_at hk0, hc]
        rfl
      refine va_last hx hb hK hR.1 (am_ws_D h) hS k0 2 hat rfl hin hdec (fun H1 locs1 hP1 _ hS1 => ?_)
      exact am_fin0 (kk H1 locs1 LS ⟨am_rel_set (.inl (.long, n, .inr (.inl (vp_updL f i.toNatClampNeg x)))) hR hk0 hP1, am_scr_set _ hS0, hS1, hlv, hlen⟩) (congrArg (fun z => F0 m z LS _) hn)
  · cases es
set_option maxHeartbeats 1000000 in
theorem ss_aastore {M : am_M} {j len a bb : Nat} {v : Value} {sw : List (Int32 × Nat)} {ls st : List Value} {h h' : am_H} {F' : am_F} {LS : Array Slot} (hins : am_ins M j = (.aastore, len, a, bb, v, sw)) (hdec : decode M.2.1 (am_pc M j) = .ok (.aastore, len)) (hI : am_chkI M j (.aastore, len, a, bb, v, sw) = true) (C0 : am_ctx b base aC D L xs p s m args meth c M) (hkd : am_kind (.aastore, len, a, bb, v, sw) = 0) (es : am_step (.aastore, len, a, bb, v, sw) j ls st h = some (F', h')) (X : am_st b base aC D L xs M.2.2.1 s h H locs ls LS) (hcnt : s.heap.size + cells = base + h.2.1) (hcl : cells + (h'.2.1 - h.2.1) ≤ R.cells) (hsl : slots + (h'.2.2 - h.2.2) ≤ R.slots) (hfr : M.2.2.2.2.2.1.1 ≤ R.frames) (hlo : M.2.2.2.2.2.1.2 ≤ R.locals)
    (kk : (∀ (H1 : Heap) (locs1 : List Loc) (LS1 : Array Slot), am_st b base aC D L xs M.2.2.1 s h' H1 locs1 F'.2.1 LS1 → W p l e R s m args below meth c H1 locs1 (cells + (h'.2.1 - h.2.1)) (slots + (h'.2.2 - h.2.2)) Q (F0 m (am_pc M F'.1) LS1 (F'.2.2.map (am_cv b base))))) :
    W p l e R s m args below meth c H locs cells slots Q (F0 m (am_pc M j) LS (st.map (am_cv b base))) := by
  obtain ⟨hx, hb, hml, hr, hown, hts, hlocks, hname, hK, hX, hbb, hbs, hnw, haS, haI⟩ := C0
  obtain ⟨hR, hS0, hS, hlv, hlen⟩ := id X
  obtain ⟨rfl, hn⟩ := am_nx_spec hins (show am_nx M j 1 = true from hI)
  simp only [am_step] at es
  split at es
  · rename_i y i a1 r
    obtain ⟨C, n, f, hc, es⟩ := am_arq_some es
    rcases am_oc_some es with ⟨rfl, es⟩ | ⟨rfl, es⟩
    · obtain ⟨fs, hc2, es⟩ := am_obj_some es
      split at es
      · cases es
      · rename_i hin
        cases es
        obtain ⟨k0, rfl, hk0⟩ := (am_place hR hS0 (by rw [hc]; unfold am_dead; exact fun q => by cases q) (by rw [hc]; exact fun q => by cases q))
        obtain ⟨k1, rfl, hk1⟩ := am_place_obj hR hS0 hc2 (by omega)
        have hat : (am_ws b base aC h)[k0]? = some (am_ad b base (k0 + 1), .inl (aC (.object "SpiteLine$Scene"), n, .inr (.inr (.inr (.inr (fun j => (f j).map (am_ad b base))))))) := by
          rw [am_ws_at hk0, hc]
          rfl
        have hat2 : (am_ws b base aC h)[k1]? = some (am_ad b base (k1 + 1), .inr (6, fs.map (am_cv b base))) := by
          rw [am_ws_at hk1, hc2]
          rfl
        refine va_astq (r := (am_own 6, am_ft 6, am_fn 6)) hx hb hK hR.1 (am_ws_D h) hS k0 3 k1 6 hat rfl hat2 (am_cls (by omega)) hin hdec (fun H1 locs1 hP1 _ hS1 => ?_)
        rw [← am_up_map] at hP1
        exact am_fin0 (kk H1 locs1 LS ⟨am_rel_set (.inl (.object "SpiteLine$Scene", n, .inr (.inr (.inr (.inr (va_up f i.toNatClampNeg (some (k1 + 1)))))))) hR hk0 hP1, am_scr_set _ hS0, hS1, hlv, hlen⟩) (congrArg (fun z => F0 m z LS _) hn)
    · obtain ⟨fs, hc2, es⟩ := am_obj_some es
      split at es
      · cases es
      · rename_i hin
        cases es
        obtain ⟨k0, rfl, hk0⟩ := (am_place hR hS0 (by rw [hc]; unfold am_dead; exact fun q => by cases q) (by rw [hc]; exact fun q => by cases q))
        obtain ⟨k1, rfl, hk1⟩ := am_place_obj hR hS0 hc2 (by omega)
        have hat : (am_ws b base aC h)[k0]? = some (am_ad b base (k0 + 1), .inl (aC (.object "SpiteLine$Image"), n, .inr (.inr (.inr (.inr (fun j => (f j).map (am_ad b base))))))) := by
          rw [am_ws_at hk0, hc]
          rfl
        have hat2 : (am_ws b base aC h)[k1]? = some (am_ad b base (k1 + 1), .inr (3, fs.map (am_cv b base))) := by
          rw [am_ws_at hk1, hc2]
          rfl
        refine va_astq (r := (am_own 3, am_ft 3, am_fn 3)) hx hb hK hR.1 (am_ws_D h) hS k0 4 k1 3 hat rfl hat2 (am_cls (by omega)) hin hdec (fun H1 locs1 hP1 _ hS1 => ?_)
        rw [← am_up_map] at hP1
        exact am_fin0 (kk H1 locs1 LS ⟨am_rel_set (.inl (.object "SpiteLine$Image", n, .inr (.inr (.inr (.inr (va_up f i.toNatClampNeg (some (k1 + 1)))))))) hR hk0 hP1, am_scr_set _ hS0, hS1, hlv, hlen⟩) (congrArg (fun z => F0 m z LS _) hn)
  · cases es
set_option maxHeartbeats 1000000 in
theorem ss_arraylength {M : am_M} {j len a bb : Nat} {v : Value} {sw : List (Int32 × Nat)} {ls st : List Value} {h h' : am_H} {F' : am_F} {LS : Array Slot} (hins : am_ins M j = (.arraylength, len, a, bb, v, sw)) (hdec : decode M.2.1 (am_pc M j) = .ok (.arraylength, len)) (hI : am_chkI M j (.arraylength, len, a, bb, v, sw) = true) (C0 : am_ctx b base aC D L xs p s m args meth c M) (hkd : am_kind (.arraylength, len, a, bb, v, sw) = 0) (es : am_step (.arraylength, len, a, bb, v, sw) j ls st h = some (F', h')) (X : am_st b base aC D L xs M.2.2.1 s h H locs ls LS) (hcnt : s.heap.size + cells = base + h.2.1) (hcl : cells + (h'.2.1 - h.2.1) ≤ R.cells) (hsl : slots + (h'.2.2 - h.2.2) ≤ R.slots) (hfr : M.2.2.2.2.2.1.1 ≤ R.frames) (hlo : M.2.2.2.2.2.1.2 ≤ R.locals)
    (kk : (∀ (H1 : Heap) (locs1 : List Loc) (LS1 : Array Slot), am_st b base aC D L xs M.2.2.1 s h' H1 locs1 F'.2.1 LS1 → W p l e R s m args below meth c H1 locs1 (cells + (h'.2.1 - h.2.1)) (slots + (h'.2.2 - h.2.2)) Q (F0 m (am_pc M F'.1) LS1 (F'.2.2.map (am_cv b base))))) :
    W p l e R s m args below meth c H locs cells slots Q (F0 m (am_pc M j) LS (st.map (am_cv b base))) := by
  obtain ⟨hx, hb, hml, hr, hown, hts, hlocks, hname, hK, hX, hbb, hbs, hnw, haS, haI⟩ := C0
  obtain ⟨hR, hS0, hS, hlv, hlen⟩ := id X
  obtain ⟨rfl, hn⟩ := am_nx_spec hins (show am_nx M j 1 = true from hI)
  simp only [am_step] at es
  split at es
  · obtain ⟨n, f, hc, es⟩ := am_ari_some es
    cases es
    rcases hS0 with q | q
    · rw [hc] at q
      unfold am_dead at q
      cases q
    · rw [hc] at q
      cases q
      refine va_slen hx hb hX (Nat.lt_of_lt_of_le hbb hbs) (Nat.not_le.mpr hbb) hS hdec ?_
      exact am_fin0 (kk H locs LS X) (congrArg (fun z => F0 m z LS _) hn)
  · cases es
set_option maxHeartbeats 1000000 in
theorem ss_newarray {M : am_M} {j len a bb : Nat} {v : Value} {sw : List (Int32 × Nat)} {t : ArrayType} {ls st : List Value} {h h' : am_H} {F' : am_F} {LS : Array Slot} (hins : am_ins M j = (.newarray t, len, a, bb, v, sw)) (hdec : decode M.2.1 (am_pc M j) = .ok (.newarray t, len)) (hI : am_chkI M j (.newarray t, len, a, bb, v, sw) = true) (C0 : am_ctx b base aC D L xs p s m args meth c M) (hkd : am_kind (.newarray t, len, a, bb, v, sw) = 0) (es : am_step (.newarray t, len, a, bb, v, sw) j ls st h = some (F', h')) (X : am_st b base aC D L xs M.2.2.1 s h H locs ls LS) (hcnt : s.heap.size + cells = base + h.2.1) (hcl : cells + (h'.2.1 - h.2.1) ≤ R.cells) (hsl : slots + (h'.2.2 - h.2.2) ≤ R.slots) (hfr : M.2.2.2.2.2.1.1 ≤ R.frames) (hlo : M.2.2.2.2.2.1.2 ≤ R.locals)
    (kk : (∀ (H1 : Heap) (locs1 : List Loc) (LS1 : Array Slot), am_st b base aC D L xs M.2.2.1 s h' H1 locs1 F'.2.1 LS1 → W p l e R s m args below meth c H1 locs1 (cells + (h'.2.1 - h.2.1)) (slots + (h'.2.2 - h.2.2)) Q (F0 m (am_pc M F'.1) LS1 (F'.2.2.map (am_cv b base))))) :
    W p l e R s m args below meth c H locs cells slots Q (F0 m (am_pc M j) LS (st.map (am_cv b base))) := by
  obtain ⟨hx, hb, hml, hr, hown, hts, hlocks, hname, hK, hX, hbb, hbs, hnw, haS, haI⟩ := C0
  obtain ⟨hR, hS0, hS, hlv, hlen⟩ := id X
  obtain ⟨rfl, hn⟩ := am_nx_spec hins (show am_nx M j 2 = true from hI)
  have hA : ∀ q, s.heap.size ≤ q → am_A base q := fun q hq => Nat.le_trans hbs hq
  simp only [am_step] at es
  obtain ⟨x, r, rfl, es2⟩ := am_i1_some es
  clear es
  have es := es2
  clear es2
  cases t <;> dsimp only [am_nat] at es <;> try (cases es; done)
  · split at es
    · cases es
    · rename_i hin
      cases es
      dsimp only [am_push] at hcl hsl
      refine va_newa (atype := .boolean) (N' := x.toNatClampNeg) hx hb (hts _ w_aboolean) rfl hK hR.1 (am_ws_D h) hS hA (a0 := (x.toNatClampNeg, .inl (fun _ => 0))) (fun cA => rfl) (fun q => hin (Or.inl q)) rfl (by show x.toNatClampNeg * 1 ≤ 536870912; omega) (by omega) (by omega) hdec (fun q cA H1 hK1 hP1 hD1 hS1 => ?_)
      refine am_size (fun hz => ?_)
      obtain rfl := am_fresh hP1 hD1 (by omega)
      obtain rfl : cA = aC .boolean := Option.some.inj ((show s.vm.findClass ("[" ++ FieldType.toString .boolean) = some cA from (hK1.2 5 (cA, .boolean) rfl).2).symm.trans (show s.vm.findClass ("[" ++ FieldType.toString .boolean) = some (aC .boolean) from (hK.2 1 (aC .boolean, .boolean) rfl).2))
      exact am_fin1 (kk H1 locs LS ⟨am_rel_push (.inl (.boolean, (x.toNatClampNeg, .inl (fun _ => 0)))) _ hR hP1, am_scr_push _ _ hS0, hS1, hlv, hlen⟩) (congrArg (fun z => F0 m z LS _) hn)
  · split at es
    · cases es
    · rename_i hin
      cases es
      dsimp only [am_push] at hcl hsl
      refine va_newa (atype := .int) (N' := x.toNatClampNeg) hx hb (hts _ w_aint) rfl hK hR.1 (am_ws_D h) hS hA (a0 := (x.toNatClampNeg, .inl (fun _ => 0))) (fun cA => rfl) (fun q => hin (Or.inl q)) rfl (by show x.toNatClampNeg * 4 ≤ 536870912; omega) (by omega) (by omega) hdec (fun q cA H1 hK1 hP1 hD1 hS1 => ?_)
      refine am_size (fun hz => ?_)
      obtain rfl := am_fresh hP1 hD1 (by omega)
      obtain rfl : cA = aC .int := Option.some.inj ((show s.vm.findClass ("[" ++ FieldType.toString .int) = some cA from (hK1.2 5 (cA, .int) rfl).2).symm.trans (show s.vm.findClass ("[" ++ FieldType.toString .int) = some (aC .int) from (hK.2 0 (aC .int, .int) rfl).2))
      exact am_fin1 (kk H1 locs LS ⟨am_rel_push (.inl (.int, (x.toNatClampNeg, .inl (fun _ => 0)))) _ hR hP1, am_scr_push _ _ hS0, hS1, hlv, hlen⟩) (congrArg (fun z => F0 m z LS _) hn)
  · split at es
    · cases es
    · rename_i hin
      cases es
      dsimp only [am_push] at hcl hsl
      refine va_newa (atype := .long) (N' := x.toNatClampNeg) hx hb (hts _ w_along) rfl hK hR.1 (am_ws_D h) hS hA (a0 := (x.toNatClampNeg, .inr (.inl (fun _ => 0)))) (fun cA => rfl) (fun q => hin (Or.inl q)) rfl (by show x.toNatClampNeg * 8 ≤ 536870912; omega) (by omega) (by omega) hdec (fun q cA H1 hK1 hP1 hD1 hS1 => ?_)
      refine am_size (fun hz => ?_)
      obtain rfl := am_fresh hP1 hD1 (by omega)
      obtain rfl : cA = aC .long := Option.some.inj ((show s.vm.findClass ("[" ++ FieldType.toString .long) = some cA from (hK1.2 5 (cA, .long) rfl).2).symm.trans (show s.vm.findClass ("[" ++ FieldType.toString .long) = some (aC .long) from (hK.2 2 (aC .long, .long) rfl).2))
      exact am_fin1 (kk H1 locs LS ⟨am_rel_push (.inl (.long, (x.toNatClampNeg, .inr (.inl (fun _ => 0))))) _ hR hP1, am_scr_push _ _ hS0, hS1, hlv, hlen⟩) (congrArg (fun z => F0 m z LS _) hn)
set_option maxHeartbeats 1000000 in
theorem ss_anewarray {M : am_M} {j len a bb : Nat} {v : Value} {sw : List (Int32 × Nat)} {n : Nat} {ls st : List Value} {h h' : am_H} {F' : am_F} {LS : Array Slot} (hins : am_ins M j = (.anewarray n, len, a, bb, v, sw)) (hdec : decode M.2.1 (am_pc M j) = .ok (.anewarray n, len)) (hI : am_chkI M j (.anewarray n, len, a, bb, v, sw) = true) (C0 : am_ctx b base aC D L xs p s m args meth c M) (hkd : am_kind (.anewarray n, len, a, bb, v, sw) = 0) (es : am_step (.anewarray n, len, a, bb, v, sw) j ls st h = some (F', h')) (X : am_st b base aC D L xs M.2.2.1 s h H locs ls LS) (hcnt : s.heap.size + cells = base + h.2.1) (hcl : cells + (h'.2.1 - h.2.1) ≤ R.cells) (hsl : slots + (h'.2.2 - h.2.2) ≤ R.slots) (hfr : M.2.2.2.2.2.1.1 ≤ R.frames) (hlo : M.2.2.2.2.2.1.2 ≤ R.locals)
    (kk : (∀ (H1 : Heap) (locs1 : List Loc) (LS1 : Array Slot), am_st b base aC D L xs M.2.2.1 s h' H1 locs1 F'.2.1 LS1 → W p l e R s m args below meth c H1 locs1 (cells + (h'.2.1 - h.2.1)) (slots + (h'.2.2 - h.2.2)) Q (F0 m (am_pc M F'.1) LS1 (F'.2.2.map (am_cv b base))))) :
    W p l e R s m args below meth c H locs cells slots Q (F0 m (am_pc M j) LS (st.map (am_cv b base))) := by
  obtain ⟨hx, hb, hml, hr, hown, hts, hlocks, hname, hK, hX, hbb, hbs, hnw, haS, haI⟩ := C0
  obtain ⟨hR, hS0, hS, hlv, hlen⟩ := id X
  simp only [am_chkI, Bool.and_eq_true, decide_eq_true_eq] at hI
  obtain ⟨hnx, hck, h63⟩ := hI
  obtain ⟨rfl, hn⟩ := am_nx_spec hins hnx
  have hA : ∀ q, s.heap.size ≤ q → am_A base q := fun q hq => Nat.le_trans hbs hq
  simp only [am_step] at es
  obtain ⟨x, r, rfl, es2⟩ := am_i1_some es
  clear es
  have es := es2
  clear es2
  split at es
  · cases es
  · rename_i hin
    cases es
    dsimp only [am_push] at hcl hsl
    rcases h63 with rfl | rfl
    · refine va_newq (C := "SpiteLine$Scene") (N' := x.toNatClampNeg) hx hb hown (hts _ (w_ck _ hck)) haS hK hR.1 (am_ws_D h) hS hA (fun q => hin (Or.inl q)) rfl (by omega) (by omega) (by omega) hdec (fun q cA H1 hK1 hP1 hD1 hS1 => ?_)
      refine am_size (fun hz => ?_)
      obtain rfl := am_fresh hP1 hD1 (by omega)
      obtain ⟨-, -, -, -, -, e1⟩ := (hK1.2 5 (cA, .object "SpiteLine$Scene") rfl).2
      obtain ⟨-, -, -, -, -, e2⟩ := (hK.2 3 (aC (.object "SpiteLine$Scene"), .object "SpiteLine$Scene") rfl).2
      obtain rfl := Option.some.inj (e1.symm.trans e2)
      exact am_fin1 (kk H1 locs LS ⟨am_rel_push (.inl (.object "SpiteLine$Scene", x.toNatClampNeg, .inr (.inr (.inr (.inr (fun _ => none)))))) _ hR hP1, am_scr_push _ _ hS0, hS1, hlv, hlen⟩) (congrArg (fun z => F0 m z LS _) hn)
    · refine va_newq (C := "SpiteLine$Image") (N' := x.toNatClampNeg) hx hb hown (hts _ (w_ck _ hck)) haI hK hR.1 (am_ws_D h) hS hA (fun q => hin (Or.inl q)) rfl (by omega) (by omega) (by omega) hdec (fun q cA H1 hK1 hP1 hD1 hS1 => ?_)
      refine am_size (fun hz => ?_)
      obtain rfl := am_fresh hP1 hD1 (by omega)
      obtain ⟨-, -, -, -, -, e1⟩ := (hK1.2 5 (cA, .object "SpiteLine$Image") rfl).2
      obtain ⟨-, -, -, -, -, e2⟩ := (hK.2 4 (aC (.object "SpiteLine$Image"), .object "SpiteLine$Image") rfl).2
      obtain rfl := Option.some.inj (e1.symm.trans e2)
      exact am_fin1 (kk H1 locs LS ⟨am_rel_push (.inl (.object "SpiteLine$Image", x.toNatClampNeg, .inr (.inr (.inr (.inr (fun _ => none)))))) _ hR hP1, am_scr_push _ _ hS0, hS1, hlv, hlen⟩) (congrArg (fun z => F0 m z LS _) hn)
set_option maxHeartbeats 1000000 in
theorem ss_new {M : am_M} {j len a bb : Nat} {v : Value} {sw : List (Int32 × Nat)} {n : Nat} {ls st : List Value} {h h' : am_H} {F' : am_F} {LS : Array Slot} (hins : am_ins M j = (.new n, len, a, bb, v, sw)) (hdec : decode M.2.1 (am_pc M j) = .ok (.new n, len)) (hI : am_chkI M j (.new n, len, a, bb, v, sw) = true) (C0 : am_ctx b base aC D L xs p s m args meth c M) (hkd : am_kind (.new n, len, a, bb, v, sw) = 0) (es : am_step (.new n, len, a, bb, v, sw) j ls st h = some (F', h')) (X : am_st b base aC D L xs M.2.2.1 s h H locs ls LS) (hcnt : s.heap.size + cells = base + h.2.1) (hcl : cells + (h'.2.1 - h.2.1) ≤ R.cells) (hsl : slots + (h'.2.2 - h.2.2) ≤ R.slots) (hfr : M.2.2.2.2.2.1.1 ≤ R.frames) (hlo : M.2.2.2.2.2.1.2 ≤ R.locals)
    (kk : (∀ (H1 : Heap) (locs1 : List Loc) (LS1 : Array Slot), am_st b base aC D L xs M.2.2.1 s h' H1 locs1 F'.2.1 LS1 → W p l e R s m args below meth c H1 locs1 (cells + (h'.2.1 - h.2.1)) (slots + (h'.2.2 - h.2.2)) Q (F0 m (am_pc M F'.1) LS1 (F'.2.2.map (am_cv b base))))) :
    W p l e R s m args below meth c H locs cells slots Q (F0 m (am_pc M j) LS (st.map (am_cv b base))) := by
  obtain ⟨hx, hb, hml, hr, hown, hts, hlocks, hname, hK, hX, hbb, hbs, hnw, haS, haI⟩ := C0
  obtain ⟨hR, hS0, hS, hlv, hlen⟩ := id X
  simp only [am_chkI, Bool.and_eq_true, decide_eq_true_eq] at hI
  obtain ⟨hnx, hck⟩ := hI
  obtain ⟨rfl, hn⟩ := am_nx_spec hins hnx
  have hA : ∀ q, s.heap.size ≤ q → am_A base q := fun q hq => Nat.le_trans hbs hq
  have hci : a < 11 := w_ckn _ hck
  cases es
  dsimp only [am_push] at hcl hsl
  rw [am_dfl_len] at hsl
  refine va_new (C := am_own a) (T := am_ft a) (N := am_fn a) (fs := (am_dfl a).map (am_cv b base)) hx hb hts (w_lay hci) (am_fty a) (am_ty_ok hci) hown (hts _ (w_ck _ hck)) (hts _ (w_inst a (List.mem_range.mpr hci))) (hts _ (w_init a (List.mem_range.mpr hci))) hK hR.1 (am_ws_D h) hS hA (am_cls hci) (fun k hk => am_dfl_at hk) (by omega) (by omega) hdec (fun q H1 hP1 hD1 hS1 => ?_)
  refine am_size (fun hz => ?_)
  obtain rfl := am_fresh hP1 hD1 (by omega)
  have k2 := kk H1 locs LS ⟨am_rel_push (.inr (a, am_dfl a)) _ hR hP1, am_scr_push _ _ hS0, hS1, hlv, hlen⟩
  rw [am_dfl_len] at k2
  exact am_fin1 k2 (congrArg (fun z => F0 m z LS _) hn)
set_option maxHeartbeats 1000000 in
theorem ss_invokespecial {M : am_M} {j len a bb : Nat} {v : Value} {sw : List (Int32 × Nat)} {n : Nat} {ls st : List Value} {h h' : am_H} {F' : am_F} {LS : Array Slot} (hins : am_ins M j = (.invokespecial n, len, a, bb, v, sw)) (hdec : decode M.2.1 (am_pc M j) = .ok (.invokespecial n, len)) (hI : am_chkI M j (.invokespecial n, len, a, bb, v, sw) = true) (C0 : am_ctx b base aC D L xs p s m args meth c M) (hkd : am_kind (.invokespecial n, len, a, bb, v, sw) = 0) (es : am_step (.invokespecial n, len, a, bb, v, sw) j ls st h = some (F', h')) (X : am_st b base aC D L xs M.2.2.1 s h H locs ls LS) (hcnt : s.heap.size + cells = base + h.2.1) (hcl : cells + (h'.2.1 - h.2.1) ≤ R.cells) (hsl : slots + (h'.2.2 - h.2.2) ≤ R.slots) (hfr : M.2.2.2.2.2.1.1 ≤ R.frames) (hlo : M.2.2.2.2.2.1.2 ≤ R.locals)
    (kk : (∀ (H1 : Heap) (locs1 : List Loc) (LS1 : Array Slot), am_st b base aC D L xs M.2.2.1 s h' H1 locs1 F'.2.1 LS1 → W p l e R s m args below meth c H1 locs1 (cells + (h'.2.1 - h.2.1)) (slots + (h'.2.2 - h.2.2)) Q (F0 m (am_pc M F'.1) LS1 (F'.2.2.map (am_cv b base))))) :
    W p l e R s m args below meth c H locs cells slots Q (F0 m (am_pc M j) LS (st.map (am_cv b base))) := by
  obtain ⟨hx, hb, hml, hr, hown, hts, hlocks, hname, hK, hX, hbb, hbs, hnw, haS, haI⟩ := C0
  obtain ⟨hR, hS0, hS, hlv, hlen⟩ := id X
  have ha : a = 1000 := by
    by_cases q : a = 1000
    · exact q
    · simp [am_kind, q] at hkd
  subst ha
  simp only [am_chkI, Bool.and_eq_true, if_true, decide_eq_true_eq] at hI
  obtain ⟨hnx, hmo, hf1, hl1⟩ := hI
  obtain ⟨rfl, hn⟩ := am_nx_spec hins hnx
  simp only [am_step] at es
  split at es
  · split at es
    · rename_i hsum
      cases es
      refine W.objInit hx hb hown (hts _ (w_mo _ hmo)) (hts _ w_oi) (hts _ w_oc) rfl (by show LS.size = _; rw [hlv.1, hlen, hml]) rfl hdec (by omega) (by show 2 * 0 + _ + 12 ≤ _; rw [am_cv_sum]; omega) ?_
      exact am_fin0 (kk H locs LS X) (congrArg (fun z => F0 m z LS _) hn)
    · cases es
  · cases es
set_option maxHeartbeats 1000000 in
theorem ss_invokestatic {M : am_M} {j len a bb : Nat} {v : Value} {sw : List (Int32 × Nat)} {n : Nat} {ls st : List Value} {h h' : am_H} {F' : am_F} {LS : Array Slot} (hins : am_ins M j = (.invokestatic n, len, a, bb, v, sw)) (hdec : decode M.2.1 (am_pc M j) = .ok (.invokestatic n, len)) (hI : am_chkI M j (.invokestatic n, len, a, bb, v, sw) = true) (C0 : am_ctx b base aC D L xs p s m args meth c M) (hkd : am_kind (.invokestatic n, len, a, bb, v, sw) = 0) (es : am_step (.invokestatic n, len, a, bb, v, sw) j ls st h = some (F', h')) (X : am_st b base aC D L xs M.2.2.1 s h H locs ls LS) (hcnt : s.heap.size + cells = base + h.2.1) (hcl : cells + (h'.2.1 - h.2.1) ≤ R.cells) (hsl : slots + (h'.2.2 - h.2.2) ≤ R.slots) (hfr : M.2.2.2.2.2.1.1 ≤ R.frames) (hlo : M.2.2.2.2.2.1.2 ≤ R.locals)
    (kk : (∀ (H1 : Heap) (locs1 : List Loc) (LS1 : Array Slot), am_st b base aC D L xs M.2.2.1 s h' H1 locs1 F'.2.1 LS1 → W p l e R s m args below meth c H1 locs1 (cells + (h'.2.1 - h.2.1)) (slots + (h'.2.2 - h.2.2)) Q (F0 m (am_pc M F'.1) LS1 (F'.2.2.map (am_cv b base))))) :
    W p l e R s m args below meth c H locs cells slots Q (F0 m (am_pc M j) LS (st.map (am_cv b base))) := by
  obtain ⟨hx, hb, hml, hr, hown, hts, hlocks, hname, hK, hX, hbb, hbs, hnw, haS, haI⟩ := C0
  obtain ⟨hR, hS0, hS, hlv, hlen⟩ := id X
  have hls : c.maxLocals = LS.size := by rw [hlv.1, hlen, hml]
  have ha : 1000 < a := by
    by_cases q : 1000 < a
    · exact q
    · simp [am_kind, q] at hkd
  simp only [am_chkI, Bool.and_eq_true] at hI
  obtain ⟨hnx, hI⟩ := hI
  obtain ⟨rfl, hn⟩ := am_nx_spec hins hnx
  simp only [am_step] at es
  split at es
  · rename_i h1
    subst h1
    simp only [if_true, decide_eq_true_eq] at hI
    obtain ⟨hmc, hf1, hl1⟩ := hI
    split at es
    · rename_i z dp a1 sp a0 r
      obtain ⟨n0, f, hc0, es⟩ := am_ari_some es
      obtain ⟨n1, g, hc1, es⟩ := am_ari_some es
      split at es
      · cases es
      · rename_i hin
        simp only [not_or] at hin
        obtain ⟨i1, i2, i3, i4, i5, i6, i7, i8⟩ := hin
        cases es
        obtain ⟨k0, rfl, hk0⟩ := am_live hR i1 (by rw [hc0]; unfold am_dead; exact fun q => by cases q)
        obtain ⟨k1, rfl, hk1⟩ := am_live hR i2 (by rw [hc1]; unfold am_dead; exact fun q => by cases q)
        have hat : (am_ws b base aC h)[k0]? = some (am_ad b base (k0 + 1), .inl (aC .int, n0, .inl f)) := by
          rw [am_ws_at hk0, hc0]
          rfl
        have hat1 : (am_ws b base aC h)[k1]? = some (am_ad b base (k1 + 1), .inl (aC .int, n1, .inl g)) := by
          rw [am_ws_at hk1, hc1]
          rfl
        refine va_copyi hx hb hls hown (hts _ (w_mc _ hmc)) (hts _ w_an) (hts _ w_as) (hts _ w_ai) hK hR.1 (am_ws_D h) hS k0 k1 0 0 hat hat1 rfl rfl rfl i3 i4 i5 (by omega) (by omega) (fun _ _ => rfl) (by omega) (by rw [am_cv_sum, show nativeFrameWords "java/lang/System" "arraycopy" 5 = 7 from by decide +kernel]; omega) hdec (fun H1 locs1 hP1 _ hS1 => ?_)
        exact am_fin0 (kk H1 locs1 LS ⟨am_rel_set (.inl (.int, n1, .inl (va_cpy f g sp.toNatClampNeg dp.toNatClampNeg z.toNatClampNeg))) hR hk1 hP1, am_scr_set _ hS0, hS1, hlv, hlen⟩) (congrArg (fun z => F0 m z LS _) hn)
    · cases es
  · rename_i h1
    rw [if_neg h1, if_pos ha, decide_eq_true_eq] at hI
    obtain ⟨hmm, hf1, hl1⟩ := hI
    have hlk := hts _ (w_mm _ hmm)
    dsimp only at hlk
    split at es
    · rename_i h2
      subst h2
      obtain ⟨x, y, r, rfl, es2⟩ := am_i2_some es
      clear es
      have es := es2
      clear es2
      split at es
      · cases es
      · cases es
        refine va_mmax hx hb hls hown hlk (hts _ w_mmax) (hts _ w_mi) (hts _ w_cmax) (by omega) (by rw [am_cv_sum]; omega) (by omega) (by omega) hdec ?_
        exact am_fin0 (kk H locs LS X) (congrArg (fun z => F0 m z LS _) hn)
    · split at es
      · rename_i h2 h3
        subst h3
        obtain ⟨x, y, r, rfl, es2⟩ := am_i2_some es
        clear es
        have es := es2
        clear es2
        split at es
        · cases es
        · cases es
          refine va_mmin hx hb hls hown hlk (hts _ w_mmin) (hts _ w_mi) (hts _ w_cmin) (by omega) (by rw [am_cv_sum]; omega) (by omega) (by omega) hdec ?_
          exact am_fin0 (kk H locs LS X) (congrArg (fun z => F0 m z LS _) hn)
      · rename_i h2 h3
        have hlk2 : (Jvm.Cond.methodLink (am_own M.2.2.2.2.1) n Lib.Math.abs.name).before args s = true := by
          unfold am_mmn at hlk
          rw [if_neg h2, if_neg h3] at hlk
          exact hlk
        obtain ⟨x, r, rfl, es2⟩ := am_i1_some es
        clear es
        have es := es2
        clear es2
        split at es
        · cases es
        · cases es
          refine va_mabs hx hb hls hown hlk2 (hts _ w_mabs) (hts _ w_mi) (hts _ w_cabs) (by omega) (by rw [am_cv_sum]; omega) (by omega) (by omega) hdec ?_
          exact am_fin0 (kk H locs LS X) (congrArg (fun z => F0 m z LS _) hn)
set_option maxHeartbeats 4000000 in
/-- every step -/
theorem am_step_sound {M : am_M} {j : Nat} {ls st : List Value} {h h' : am_H} {F' : am_F} {LS : Array Slot} (hchk : am_chk M j = true) (C0 : am_ctx b base aC D L xs p s m args meth c M) (hkd : am_kind (am_ins M j) = 0) (es : am_step (am_ins M j) j ls st h = some (F', h')) (X : am_st b base aC D L xs M.2.2.1 s h H locs ls LS) (hcnt : s.heap.size + cells = base + h.2.1) (hcl : cells + (h'.2.1 - h.2.1) ≤ R.cells) (hsl : slots + (h'.2.2 - h.2.2) ≤ R.slots) (hfr : M.2.2.2.2.2.1.1 ≤ R.frames) (hlo : M.2.2.2.2.2.1.2 ≤ R.locals)
    (kk : (∀ (H1 : Heap) (locs1 : List Loc) (LS1 : Array Slot), am_st b base aC D L xs M.2.2.1 s h' H1 locs1 F'.2.1 LS1 → W p l e R s m args below meth c H1 locs1 (cells + (h'.2.1 - h.2.1)) (slots + (h'.2.2 - h.2.2)) Q (F0 m (am_pc M F'.1) LS1 (F'.2.2.map (am_cv b base))))) :
    W p l e R s m args below meth c H locs cells slots Q (F0 m (am_pc M j) LS (st.map (am_cv b base))) := by
  unfold am_chk at hchk
  rw [Bool.and_eq_true, decide_eq_true_eq] at hchk
  obtain ⟨hdec, hI⟩ := hchk
  obtain ⟨⟨ins, len, a, bb, v, sw⟩, hins⟩ : ∃ I, am_ins M j = I := ⟨_, rfl⟩
  rw [hins] at hkd es hdec hI
  dsimp only at hdec
  cases ins
  case iload i => exact ss_iload hins hdec hI C0 hkd es X hcnt hcl hsl hfr hlo kk
  case iload_n i => exact ss_iload_n hins hdec hI C0 hkd es X hcnt hcl hsl hfr hlo kk
  case aload i => exact ss_aload hins hdec hI C0 hkd es X hcnt hcl hsl hfr hlo kk
  case aload_n i => exact ss_aload_n hins hdec hI C0 hkd es X hcnt hcl hsl hfr hlo kk
  case lload i => exact ss_lload hins hdec hI C0 hkd es X hcnt hcl hsl hfr hlo kk
  case lload_n i => exact ss_lload_n hins hdec hI C0 hkd es X hcnt hcl hsl hfr hlo kk
  case istore i => exact ss_istore hins hdec hI C0 hkd es X hcnt hcl hsl hfr hlo kk
  case istore_n i => exact ss_istore_n hins hdec hI C0 hkd es X hcnt hcl hsl hfr hlo kk
  case astore_n i => exact ss_astore_n hins hdec hI C0 hkd es X hcnt hcl hsl hfr hlo kk
  case lstore_n i => exact ss_lstore_n hins hdec hI C0 hkd es X hcnt hcl hsl hfr hlo kk
  case lstore i => exact ss_lstore hins hdec hI C0 hkd es X hcnt hcl hsl hfr hlo kk
  case iinc i n => exact ss_iinc hins hdec hI C0 hkd es X hcnt hcl hsl hfr hlo kk
  case iconst n => exact ss_iconst hins hdec hI C0 hkd es X hcnt hcl hsl hfr hlo kk
  case bipush n => exact ss_bipush hins hdec hI C0 hkd es X hcnt hcl hsl hfr hlo kk
  case sipush n => exact ss_sipush hins hdec hI C0 hkd es X hcnt hcl hsl hfr hlo kk
  case ldc n => exact ss_ldc hins hdec hI C0 hkd es X hcnt hcl hsl hfr hlo kk
  case ldc2_w n => exact ss_ldc2_w hins hdec hI C0 hkd es X hcnt hcl hsl hfr hlo kk
  case iadd  => exact ss_iadd hins hdec hI C0 hkd es X hcnt hcl hsl hfr hlo kk
  case isub  => exact ss_isub hins hdec hI C0 hkd es X hcnt hcl hsl hfr hlo kk
  case imul  => exact ss_imul hins hdec hI C0 hkd es X hcnt hcl hsl hfr hlo kk
  case iand  => exact ss_iand hins hdec hI C0 hkd es X hcnt hcl hsl hfr hlo kk
  case ior  => exact ss_ior hins hdec hI C0 hkd es X hcnt hcl hsl hfr hlo kk
  case ixor  => exact ss_ixor hins hdec hI C0 hkd es X hcnt hcl hsl hfr hlo kk
  case ishl  => exact ss_ishl hins hdec hI C0 hkd es X hcnt hcl hsl hfr hlo kk
  case ishr  => exact ss_ishr hins hdec hI C0 hkd es X hcnt hcl hsl hfr hlo kk
  case idiv  => exact ss_idiv hins hdec hI C0 hkd es X hcnt hcl hsl hfr hlo kk
  case irem  => exact ss_irem hins hdec hI C0 hkd es X hcnt hcl hsl hfr hlo kk
  case ladd  => exact ss_ladd hins hdec hI C0 hkd es X hcnt hcl hsl hfr hlo kk
  case lmul  => exact ss_lmul hins hdec hI C0 hkd es X hcnt hcl hsl hfr hlo kk
  case land  => exact ss_land hins hdec hI C0 hkd es X hcnt hcl hsl hfr hlo kk
  case ldiv  => exact ss_ldiv hins hdec hI C0 hkd es X hcnt hcl hsl hfr hlo kk
  case lrem  => exact ss_lrem hins hdec hI C0 hkd es X hcnt hcl hsl hfr hlo kk
  case ineg  => exact ss_ineg hins hdec hI C0 hkd es X hcnt hcl hsl hfr hlo kk
  case i2l  => exact ss_i2l hins hdec hI C0 hkd es X hcnt hcl hsl hfr hlo kk
  case l2i  => exact ss_l2i hins hdec hI C0 hkd es X hcnt hcl hsl hfr hlo kk
  case dup  => exact ss_dup hins hdec hI C0 hkd es X hcnt hcl hsl hfr hlo kk
  case ifCond cd off => exact ss_ifCond hins hdec hI C0 hkd es X hcnt hcl hsl hfr hlo kk
  case if_icmp cd off => exact ss_if_icmp hins hdec hI C0 hkd es X hcnt hcl hsl hfr hlo kk
  case goto off => exact ss_goto hins hdec hI C0 hkd es X hcnt hcl hsl hfr hlo kk
  case tableswitch d lo hi offs => exact ss_tableswitch hins hdec hI C0 hkd es X hcnt hcl hsl hfr hlo kk
  case lookupswitch d ps => exact ss_lookupswitch hins hdec hI C0 hkd es X hcnt hcl hsl hfr hlo kk
  case getfield n => exact ss_getfield hins hdec hI C0 hkd es X hcnt hcl hsl hfr hlo kk
  case putfield n => exact ss_putfield hins hdec hI C0 hkd es X hcnt hcl hsl hfr hlo kk
  case iaload  => exact ss_iaload hins hdec hI C0 hkd es X hcnt hcl hsl hfr hlo kk
  case baload  => exact ss_baload hins hdec hI C0 hkd es X hcnt hcl hsl hfr hlo kk
  case laload  => exact ss_laload hins hdec hI C0 hkd es X hcnt hcl hsl hfr hlo kk
  case aaload  => exact ss_aaload hins hdec hI C0 hkd es X hcnt hcl hsl hfr hlo kk
  case iastore  => exact ss_iastore hins hdec hI C0 hkd es X hcnt hcl hsl hfr hlo kk
  case bastore  => exact ss_bastore hins hdec hI C0 hkd es X hcnt hcl hsl hfr hlo kk
  case lastore  => exact ss_lastore hins hdec hI C0 hkd es X hcnt hcl hsl hfr hlo kk
  case aastore  => exact ss_aastore hins hdec hI C0 hkd es X hcnt hcl hsl hfr hlo kk
  case arraylength  => exact ss_arraylength hins hdec hI C0 hkd es X hcnt hcl hsl hfr hlo kk
  case newarray t => exact ss_newarray hins hdec hI C0 hkd es X hcnt hcl hsl hfr hlo kk
  case anewarray n => exact ss_anewarray hins hdec hI C0 hkd es X hcnt hcl hsl hfr hlo kk
  case new n => exact ss_new hins hdec hI C0 hkd es X hcnt hcl hsl hfr hlo kk
  case invokespecial n => exact ss_invokespecial hins hdec hI C0 hkd es X hcnt hcl hsl hfr hlo kk
  case invokestatic n => exact ss_invokestatic hins hdec hI C0 hkd es X hcnt hcl hsl hfr hlo kk
  all_goals exact absurd (show (none : Option (am_F × am_H)) = some (F', h') from es) (fun q => by cases q)
end AMS
