-- ===== cells that are made =====
def bv_okv (n : Nat) (v : Value) : Bool := match v with
  | .ref a => Nat.blt a n || Nat.ble 1000 a
  | _ => true
def bv_oko (n : Nat) (o : Option Value) : Bool := match o with
  | some v => bv_okv n v
  | none => true
theorem bv_cv_ok {ad ad' : Nat → Nat} {n : Nat} {v : Value} (h : bv_okv n v = true) (he : ∀ k, (k < n ∨ 1000 ≤ k) → ad' k = ad k) : bv_cv ad' v = bv_cv ad v := by
  cases v with
  | ref a =>
    simp only [bv_okv, Bool.or_eq_true] at h
    simp only [bv_cv]
    rw [he a (h.elim (fun q => Or.inl (Nat.blt_eq.mp q)) (fun q => Or.inr (Nat.le_of_ble_eq_true q)))]
  | _ => rfl
theorem bv_st_ok {ad ad' : Nat → Nat} {n : Nat} {st : List Value} (h : st.all (bv_okv n) = true) (he : ∀ k, (k < n ∨ 1000 ≤ k) → ad' k = ad k) : st.map (bv_cv ad') = st.map (bv_cv ad) :=
  List.map_congr_left fun v hv => bv_cv_ok (List.all_eq_true.mp h v hv) he
theorem bv_L_ok {ad ad' : Nat → Nat} {n nL : Nat} {ls : Array Slot} {L : List (Option Value)} (h : L.all (bv_oko n) = true) (he : ∀ k, (k < n ∨ 1000 ≤ k) → ad' k = ad k) (hl : bv_L ad ls nL L) : bv_L ad' ls nL L := by
  refine ⟨hl.1, hl.2.1, fun q hq => ?_⟩
  obtain ⟨i, w⟩ := q
  obtain ⟨v, hv, rfl⟩ := bv_lv_mem.mp hq
  have h1 : bv_oko n (some v) = true := List.all_eq_true.mp h (some v) (List.mem_of_getElem? hv)
  rw [bv_cv_ok (v := v) h1 he]
  exact bv_L_at hl hv
theorem bv_sz_mono {a b : Nat} (h : a ≤ b) : bv_sz a ≤ bv_sz b := by
  induction h with
  | refl => exact Nat.le_refl _
  | step _ ih => exact Nat.le_trans ih (Nat.le_add_right _ _)
theorem bv_cell_ad {ad ad' : Nat → Nat} {ca ca' : Nat → ClassId} {n k : Nat} {mr : bv_Rfs} {mi : bv_Mem} {x : bv_Shp} (hb : bv_mb n mr) (he : ∀ k, (k < n ∨ 1000 ≤ k) → ad' k = ad k) (hc : ca' k = ca k) : bv_cell ad' ca' mr mi k x = bv_cell ad ca mr mi k x := by
  have hm : ∀ j, (mr k j).map ad' = (mr k j).map ad := by
    intro j
    cases hx : mr k j with
    | none => rfl
    | some q => simp only [Option.map_some]; rw [he q (Or.inl (hb k j q hx))]
  cases x with
  | inl y => simp [bv_cell, hm, hc]
  | inr c => simp [bv_cell, hm]
theorem bv_ws_grow {ad ad' : Nat → Nat} {ca ca' : Nat → ClassId} {n : Nat} {mr : bv_Rfs} {mi : bv_Mem} (hb : bv_mb n mr) (he : ∀ k, (k < n ∨ 1000 ≤ k) → ad' k = ad k) (hc : ∀ k, k < n → ca' k = ca k) : bv_ws ad' ca' (n + 1) mr mi = bv_ws ad ca n mr mi ++ [(ad' n, bv_cell ad' ca' mr mi n (bv_sh n))] := by
  unfold bv_ws
  rw [List.range_succ, List.map_append]
  congr 1
  apply List.map_congr_left
  intro k hk
  have hk := List.mem_range.mp hk
  rw [he k (Or.inl hk), bv_cell_ad hb he (hc k hk)]
theorem bv_dflt : ∀ ci, ci < 9 → ∀ k, k < bv_nf ci → defaultValue (bv_fty ci k) = if bv_isref (bv_fty ci k) = true then .null else .int 0 := by decide +kernel
section RULES3
variable {M : bv_M} {X : bv_Xt} {d n0 n1 : Nat} {Q : Option Value → bv_Rfs → bv_Mem → Prop} {pc : Nat} {L : List (Option Value)} {st : List Value} {n : Nat} {mr : bv_Rfs} {mi : bv_Mem}
theorem bv_ag_grow {ad0 ad ad' : Nat → Nat} {ca0 ca ca' : Nat → ClassId} (h : bv_ag n0 n1 ad0 ad ca0 ca) (h0 : n0 ≤ n) (h1 : n + 1 ≤ n1) (he : ∀ k, (k < n ∨ 1000 ≤ k) → ad' k = ad k) (hc : ∀ k, (k < n ∨ 1000 ≤ k) → ca' k = ca k) : bv_ag n0 n1 ad0 ad' ca0 ca' :=
  ⟨fun e => absurd e (by omega), fun k hk => ⟨(he k (hk.imp (fun q => by omega) id)).trans (h.2 k hk).1, (hc k (hk.imp (fun q => by omega) id)).trans (h.2 k hk).2⟩⟩
theorem ev_new {ci idx : Nat} (hd : decode M.2.1 pc = .ok (.new idx, 3)) (hs : bv_sh n = .inr ci) (hc : ci < 9) (hcl : Cond.classLink M.1 idx (bv_R ci) ∈ lw_tbl) (hin : Cond.instantiable (bv_R ci) (bv_nf ci) ∈ lw_tbl) (hini : Cond.initialized (bv_R ci) ∈ lw_tbl) (h0 : n0 ≤ n) (h1 : n + 1 ≤ n1) (hk : n < 1000) (hf1 : ∀ j, mr n j = none) (hf2 : ∀ j, mi n j = 0) (hL : L.all (bv_oko n) = true) (hst : st.all (bv_okv n) = true)
    (kk : bv_Ev M X d n0 n1 Q (pc + 3) L (.ref n :: st) (n + 1) mr mi) : bv_Ev M X d n0 n1 Q pc L st n mr mi := by
  intro l p e R s m args below meth c H locs ad0 ad ca0 ca D hC hR hag hW ls hl
  have hm1 := bv_sz_mono h1
  have hm0 := bv_sz_mono h0
  have hsz : bv_sz (n + 1) = bv_sz n + bv_nf ci := by simp [bv_sz, hs, bv_slots]
  refine va_new (ci := ci) (fs := (List.range (bv_nf ci)).map (fun j => if bv_isref (bv_fty ci j) = true then Value.null else .int 0)) hC.1 hC.2.1 (bv_hts hC hc) (fun _ h => h) (bv_fty ci) (bv_ty_ok ci hc) hC.2.2.2.1 (hC.2.2.2.2.1 _ hcl rfl) (hC.2.2.2.2.1 _ hin rfl) (hC.2.2.2.2.1 _ hini rfl) hC.2.2.2.2.2.2.2.2.1 hW.1 hW.2.1 hW.2.2.1 (fun q h => Or.inr h) (bv_cl_at ci hc) (fun j hj => ?_) (by have h9 := hR.2.1; omega) (by have h9 := hR.2.2.1; omega) hd (fun q H1 hP hD hS => ?_)
  · rw [bv_dflt ci hc j hj]
    unfold vp_V
    rw [List.getD_eq_getElem?_getD, List.getElem?_map, List.getElem?_range hj]
    rfl
  · have he : ∀ k, (k < n ∨ 1000 ≤ k) → (fun k => if k = n then q else ad k) k = ad k := fun k hk2 => by
      simp only
      rw [if_neg (by omega)]
    have hws : bv_ws (fun k => if k = n then q else ad k) ca (n + 1) mr mi = bv_ws ad ca n mr mi ++ [(q, .inr (ci, (List.range (bv_nf ci)).map (fun j => if bv_isref (bv_fty ci j) = true then Value.null else .int 0)))] := by
      rw [bv_ws_grow hW.2.2.2.2 he (fun _ _ => rfl), hs]
      simp [bv_cell, hf1, hf2, va_rf]
    rw [← hws] at hP hD
    have e1 : n + 1 - n0 = n - n0 + 1 := by omega
    have e2 : bv_sz (n + 1) - bv_sz n0 = bv_sz n - bv_sz n0 + bv_nf ci := by omega
    have k := kk l p e R s m args below meth c H1 locs ad0 (fun k => if k = n then q else ad k) ca0 ca D hC hR (bv_ag_grow hag h0 h1 he (fun _ _ => rfl)) ⟨hP, hD, hS, fun k hk ty N hs2 => by
        rcases Nat.lt_or_ge k n with h | h
        · exact hW.2.2.2.1 k h ty N hs2
        · have : k = n := by omega
          subst this
          rw [hs] at hs2
          exact absurd hs2 (by simp), fun k j q2 h => Nat.lt_succ_of_lt (hW.2.2.2.2 k j q2 h)⟩ ls (bv_L_ok hL he hl)
    rw [e1, e2] at k
    simp only [List.map_cons, bv_cv, if_true] at k
    rw [bv_st_ok hst he] at k
    exact k
theorem ev_newa {at_ : ArrayType} {ty : FieldType} {N : Nat} {v : Int32} (hd : decode M.2.1 pc = .ok (.newarray at_, 2)) (hty : newarray.typeOf at_ = ty) (hk2 : bv_kd ty < 2) (hs : bv_sh n = .inl (ty, N)) (harr : Cond.arrayClass (newarray.typeOf at_) ∈ lw_tbl) (hv : ¬ v < 0) (hN : v.toNatClampNeg = N) (hN2 : N ≤ 1000) (h0 : n0 ≤ n) (h1 : n + 1 ≤ n1) (hk : n < 1000) (hf2 : ∀ j, mi n j = 0) (hL : L.all (bv_oko n) = true) (hst : st.all (bv_okv n) = true)
    (kk : bv_Ev M X d n0 n1 Q (pc + 2) L (.ref n :: st) (n + 1) mr mi) : bv_Ev M X d n0 n1 Q pc L (.int v :: st) n mr mi := by
  intro l p e R s m args below meth c H locs ad0 ad ca0 ca D hC hR hag hW ls hl
  have hm1 := bv_sz_mono h1
  have hm0 := bv_sz_mono h0
  have hsz : bv_sz (n + 1) = bv_sz n + N := by simp [bv_sz, hs, bv_slots]
  have hr : bv_isref ty = false := by
    cases ty <;> simp [bv_kd] at hk2 <;> rfl
  have hcb : componentBytes ty ≤ 8 := by
    cases ty <;> simp [bv_kd] at hk2 <;> decide
  have hdv : defaultValue ty = .int 0 := by
    cases ty <;> simp [bv_kd] at hk2 <;> rfl
  refine va_newa (ty := ty) (a0 := (N, .inl (fun _ => 0))) (N' := N) hC.1 hC.2.1 (hC.2.2.2.2.1 _ harr rfl) hty hC.2.2.2.2.2.2.2.2.1 hW.1 hW.2.1 hW.2.2.1 (fun q h => Or.inr h) (fun cA => by rw [hdv]; rfl) hv hN (Nat.le_trans (Nat.mul_le_mul hN2 hcb) (by decide)) (by have h9 := hR.2.1; omega) (by have h9 := hR.2.2.1; omega) hd (fun q cA H1 hK hP hD hS => ?_)
  have he : ∀ k, (k < n ∨ 1000 ≤ k) → (fun k => if k = n then q else ad k) k = ad k := fun k hk2 => by
    simp only
    rw [if_neg (by omega)]
  have hec : ∀ k, (k < n ∨ 1000 ≤ k) → (fun k => if k = n then cA else ca k) k = ca k := fun k hk2 => by
    simp only
    rw [if_neg (by omega)]
  have hws : bv_ws (fun k => if k = n then q else ad k) (fun k => if k = n then cA else ca k) (n + 1) mr mi = bv_ws ad ca n mr mi ++ [(q, .inl (cA, N, .inl (fun _ => 0)))] := by
    have hz : mi n = fun _ => 0 := funext hf2
    rw [bv_ws_grow hW.2.2.2.2 he (fun k hk => hec k (Or.inl hk)), hs]
    simp [bv_cell, hz, hr]
  rw [← hws] at hP hD
  have e1 : n + 1 - n0 = n - n0 + 1 := by omega
  have e2 : bv_sz (n + 1) - bv_sz n0 = bv_sz n - bv_sz n0 + N := by omega
  have k := kk l p e R s m args below meth c H1 locs ad0 (fun k => if k = n then q else ad k) ca0 (fun k => if k = n then cA else ca k) D hC hR (bv_ag_grow hag h0 h1 he hec) ⟨hP, hD, hS, fun k hk ty2 N2 hs2 => by
      rcases Nat.lt_or_ge k n with h | h
      · rw [hec k (Or.inl h)]
        exact hW.2.2.2.1 k h ty2 N2 hs2
      · have : k = n := by omega
        subst this
        rw [hs] at hs2
        cases hs2
        simp only [if_true]
        exact hK.2 0 (cA, ty) rfl, fun k j q2 h => Nat.lt_succ_of_lt (hW.2.2.2.2 k j q2 h)⟩ ls (bv_L_ok hL he hl)
  rw [e1, e2] at k
  simp only [List.map_cons, bv_cv, if_true] at k
  rw [bv_st_ok hst he] at k
  exact k
theorem ev_newq {C : String} {idx N : Nat} {v : Int32} (hd : decode M.2.1 pc = .ok (.anewarray idx, 3)) (hs : bv_sh n = .inl (.object C, N)) (hcl : Cond.classLink M.1 idx C ∈ lw_tbl) (hov : Cond.arrayOver (.object C) ∈ lw_tbl) (hv : ¬ v < 0) (hN : v.toNatClampNeg = N) (hN2 : N ≤ 1000) (h0 : n0 ≤ n) (h1 : n + 1 ≤ n1) (hk : n < 1000) (hf1 : ∀ j, mr n j = none) (hL : L.all (bv_oko n) = true) (hst : st.all (bv_okv n) = true)
    (kk : bv_Ev M X d n0 n1 Q (pc + 3) L (.ref n :: st) (n + 1) mr mi) : bv_Ev M X d n0 n1 Q pc L (.int v :: st) n mr mi := by
  intro l p e R s m args below meth c H locs ad0 ad ca0 ca D hC hR hag hW ls hl
  have hm1 := bv_sz_mono h1
  have hm0 := bv_sz_mono h0
  have hsz : bv_sz (n + 1) = bv_sz n + N := by simp [bv_sz, hs, bv_slots]
  refine va_newq (N' := N) hC.1 hC.2.1 hC.2.2.2.1 (hC.2.2.2.2.1 _ hcl rfl) (hC.2.2.2.2.2.2.2.2.2.2.2 C hov) hC.2.2.2.2.2.2.2.2.1 hW.1 hW.2.1 hW.2.2.1 (fun q h => Or.inr h) hv hN (Nat.le_trans (Nat.mul_le_mul hN2 (Nat.le_refl 4)) (by decide)) (by have h9 := hR.2.1; omega) (by have h9 := hR.2.2.1; omega) hd (fun q cA H1 hK hP hD hS => ?_)
  have he : ∀ k, (k < n ∨ 1000 ≤ k) → (fun k => if k = n then q else ad k) k = ad k := fun k hk2 => by
    simp only
    rw [if_neg (by omega)]
  have hec : ∀ k, (k < n ∨ 1000 ≤ k) → (fun k => if k = n then cA else ca k) k = ca k := fun k hk2 => by
    simp only
    rw [if_neg (by omega)]
  have hws : bv_ws (fun k => if k = n then q else ad k) (fun k => if k = n then cA else ca k) (n + 1) mr mi = bv_ws ad ca n mr mi ++ [(q, .inl (cA, N, .inr (.inr (.inr (.inr (fun _ => none))))))] := by
    rw [bv_ws_grow hW.2.2.2.2 he (fun k hk => hec k (Or.inl hk)), hs]
    simp [bv_cell, hf1, bv_isref]
  rw [← hws] at hP hD
  have e1 : n + 1 - n0 = n - n0 + 1 := by omega
  have e2 : bv_sz (n + 1) - bv_sz n0 = bv_sz n - bv_sz n0 + N := by omega
  have k := kk l p e R s m args below meth c H1 locs ad0 (fun k => if k = n then q else ad k) ca0 (fun k => if k = n then cA else ca k) D hC hR (bv_ag_grow hag h0 h1 he hec) ⟨hP, hD, hS, fun k hk ty2 N2 hs2 => by
      rcases Nat.lt_or_ge k n with h | h
      · rw [hec k (Or.inl h)]
        exact hW.2.2.2.1 k h ty2 N2 hs2
      · have : k = n := by omega
        subst this
        rw [hs] at hs2
        cases hs2
        simp only [if_true]
        exact hK.2 0 (cA, .object C) rfl, fun k j q2 h => Nat.lt_succ_of_lt (hW.2.2.2.2 k j q2 h)⟩ ls (bv_L_ok hL he hl)
  rw [e1, e2] at k
  simp only [List.map_cons, bv_cv, if_true] at k
  rw [bv_st_ok hst he] at k
  exact k
theorem bv_cat_sum (ad : Nat → Nat) (st : List Value) : ((st.map (bv_cv ad)).map fun v => v.category).sum = (st.map fun v => v.category).sum := by
  rw [List.map_map]
  congr 1
  apply List.map_congr_left
  intro v _
  exact bv_cv_cat ad v
theorem ev_objInit {a idx : Nat} (hd : decode M.2.1 pc = .ok (.invokespecial idx, 3)) (hlk : Cond.methodLink M.1 idx objectInit ∈ lw_tbl) (hin : Cond.instanceMethod objectInit ∈ lw_tbl) (hco : Cond.code objectInit ⟨#[0xb1]⟩ 1 none ∈ lw_tbl) (hdp : 1 ≤ d) (hst : (st.map fun v => v.category).sum ≤ 8) (kk : bv_Ev M X d n0 n1 Q (pc + 3) L st n mr mi) : bv_Ev M X d n0 n1 Q pc L (.ref a :: st) n mr mi := by
  intro l p e R s m args below meth c H locs ad0 ad ca0 ca D hC hR hag hW ls hl
  have hro := lv_room (m := m) (pc := pc) (ls := ls) (rest := (Value.ref a :: st).map (bv_cv ad)) (st := st.map (bv_cv ad)) (by rw [bv_cat_sum]; exact hst)
  exact W.objInit (rest := st.map (bv_cv ad)) hC.1 hC.2.1 hC.2.2.2.1 (hC.2.2.2.2.1 _ hlk rfl) (hC.2.2.2.2.1 _ hin rfl) (hC.2.2.2.2.1 _ hco rfl) rfl (hl.1.trans hC.2.2.1.symm) rfl hd (Nat.le_trans hdp hR.1) (by have h9 := hR.2.2.2; omega) (kk l p e R s m args below meth c H locs ad0 ad ca0 ca D hC hR hag hW ls hl)
-- ===== calls =====
theorem bv_blind {X : bv_Xt} {D : va_G} {ad : Nat → Nat} {ca : Nat → ClassId} {sz : Nat} {av : List Value} : FrameBlind (va_Pc av (bv_U X D ad ca n mr mi sz)) := by
  intro a U g mk q
  obtain ⟨q0, q1, qK, qA, qP, qD, qX, qb, qn⟩ := q
  have hv : U.vm.Alike (U.calling g mk a).vm := Vm.Alike.refl U.vm
  exact ⟨q0, q1, va_K.moved (u := U) (U := U.calling g mk a) hv qK, bv_AC.moved (u := U) hv qA, qP, qD, bv_X.moved (u := U) (U := U.calling g mk a) hv qX, qb, bv_nw.same (u := U) (U := U.calling g mk a) rfl qn⟩
theorem bv_pre {X' : bv_Xt} {p : Program} {s : State} {m : MethodId} {args : Array Value} {meth : Method} {c : Code} {H : Heap} {locs : List Loc} {ad0 ad : Nat → Nat} {ca0 ca : Nat → ClassId} {D : va_G} (hC : bv_C M X n0 p s m args meth c ad0 D) (hag : bv_ag n0 n1 ad0 ad ca0 ca) (hW : bv_W D ad ca n mr mi s (bv_A ad0 n0 s.heap.size) H locs) (hX : ∀ j v, X' j = some v → X j = some v) {U : State} (hU : U.heap = H) (hw : s.WarmedH U.vm) : bv_U X' D ad ca n mr mi H.size U := by
  refine ⟨by rw [hU], va_K.moved hw.alike hC.2.2.2.2.2.2.2.2.1, hW.2.2.2.1.moved hw.alike, by rw [hU]; exact hW.1, hW.2.1.weaken (fun _ _ _ _ => trivial), ?_, hW.2.2.2.2, bv_nw.warm hw hC.2.2.2.2.2.2.2.2.2.2⟩
  have h1 : bv_X X (bv_A ad0 n0 s.heap.size) ad s H := (hC.2.2.2.2.2.2.2.2.2.1.kept hW.2.2.1.2.1).ad (fun k hk => (hag.2 k (Or.inr hk)).1)
  have h2 := (h1.sub hX).moved hw.alike
  rw [hU]
  refine h2.narrow (fun q hq => ?_)
  rcases hq with ⟨k, hk, rfl⟩ | hq
  · exact hW.2.1.2 k _ (bv_ws_at _ _ _ _ hk)
  · exact Or.inr (Nat.le_trans hW.2.2.1.1 hq)
theorem bv_sub_A {s : State} {H : Heap} {locs : List Loc} {ad0 ad : Nat → Nat} {ca : Nat → ClassId} {D : va_G} (hW : bv_W D ad ca n mr mi s (bv_A ad0 n0 s.heap.size) H locs) : ∀ q, bv_A ad n H.size q → bv_A ad0 n0 s.heap.size q := by
  intro q hq
  rcases hq with ⟨k, hk, rfl⟩ | hq
  · exact hW.2.1.2 k _ (bv_ws_at _ _ _ _ hk)
  · exact Or.inr (Nat.le_trans hW.2.2.1.1 hq)
/-- behind a call -/
theorem bv_goes {n2 : Nat} {Q' : Option Value → bv_Rfs → bv_Mem → Prop} {l : Launch} {p : Program} {e : Env} {R : Room} {s : State} {m : MethodId} {args a : Array Value} {below : List Frame} {meth : Method} {c : Code} {H : Heap} {locs : List Loc} {ad0 ad : Nat → Nat} {ca0 ca : Nat → ClassId} {D : va_G} {ls : Array Slot} {st0 : List Value}
    (hr : va_Run p l e R s m args below meth c H locs (n - n0) (bv_sz n - bv_sz n0) (n2 - n) (bv_sz n2 - bv_sz n) (F0 m pc ls st0) (st.map (bv_cv ad)) (bv_Q Q' D ad ca n n2 H.size a) (bv_A ad n H.size))
    (hC : bv_C M X n0 p s m args meth c ad0 D) (hR : bv_RR d n0 n1 R) (hag : bv_ag n0 n1 ad0 ad ca0 ca) (hW : bv_W D ad ca n mr mi s (bv_A ad0 n0 s.heap.size) H locs) (hl : bv_L ad ls M.2.2.1 L) (h0 : n0 ≤ n) (h1 : n ≤ n2) (h2 : n2 ≤ n1) (hok : n2 = n ∨ (L.all (bv_oko n) = true ∧ st.all (bv_okv n) = true))
    (k : ∀ (r : Option Value) (mr' : bv_Rfs) (mi' : bv_Mem), Q' r mr' mi' → bv_Ev M X d n0 n1 Q (pc + 3) L (r.toList ++ st) n2 mr' mi') :
    W p l e R s m args below meth c H locs (n - n0) (bv_sz n - bv_sz n0) (MQ below (bv_Q Q D ad0 ca0 n0 n1 s.heap.size) args s (n1 - n0) (bv_sz n1 - bv_sz n0) (bv_A ad0 n0 s.heap.size)) (F0 m pc ls st0) := by
  intro T hT Y
  obtain ⟨v, st₀, t, T', L', g0, Y', hL', e1, e2, ⟨r, mr', mi', ad', ca', hQ, hag', hv, hP', hD', hAC', hmb', hz, hk⟩, go⟩ := hr T hT Y
  cases hv
  rw [g0] at hz hk
  have hS := hW.2.2.1
  have hA := bv_sub_A hW
  have hvm : t.vm.Alike s.vm := by rw [← e2]; exact Y'.warmed.alike.symm
  have hS' : va_S (bv_A ad0 n0 s.heap.size) s.heap T'.heap (locs ++ L') := ⟨Nat.le_trans hS.1 (by rw [e1]; exact hz), fun q h1 h2 => by rw [e1, hk q (Nat.lt_of_lt_of_le h1 hS.1) (fun z => h2 (hA q z))]; exact hS.2.1 q h1 h2, fun q hq => by
      rcases List.mem_append.mp hq with h | h
      · exact hS.2.2 q h
      · exact hA _ (hL' q h)⟩
  have hm0 := bv_sz_mono h0
  have hm1 := bv_sz_mono h1
  have hag2 : bv_ag n0 n1 ad0 ad' ca0 ca' := by
    refine ⟨fun e => ?_, fun q hq => ⟨(hag'.2 q (hq.imp (fun z => by omega) id)).1.trans (hag.2 q hq).1, (hag'.2 q (hq.imp (fun z => by omega) id)).2.trans (hag.2 q hq).2⟩⟩
    have e3 : n = n2 := by omega
    obtain ⟨x1, x2⟩ := hag'.1 e3
    obtain ⟨x3, x4⟩ := hag.1 e
    exact ⟨x1.trans x3, x2.trans x4⟩
  have hst : bv_L ad' ls M.2.2.1 L ∧ st.map (bv_cv ad') = st.map (bv_cv ad) := by
    rcases hok with rfl | ⟨h3, h4⟩
    · obtain ⟨x1, x2⟩ := hag'.1 rfl
      rw [x1]
      exact ⟨hl, rfl⟩
    · exact ⟨bv_L_ok h3 (fun q hq => (hag'.2 q hq).1) hl, bv_st_ok h4 (fun q hq => (hag'.2 q hq).1)⟩
  have kk := k r mr' mi' hQ l p e R s m args below meth c T'.heap (locs ++ L') ad0 ad' ca0 ca' D hC hR hag2 ⟨by rw [e1]; exact hP', hD'.weaken (fun _ _ _ h => hA _ h), hS', hAC'.moved hvm, hmb'⟩ ls hst.1
  rw [List.map_append, hst.2] at kk
  have e5 : r.toList.map (bv_cv ad') = (r.map (bv_cv ad')).toList := by cases r <;> rfl
  rw [e5] at kk
  obtain ⟨t2, a1, b1⟩ := kk T' rfl (by
    have e3 : n2 - n0 = n - n0 + (n2 - n) := by omega
    have e4 : bv_sz n2 - bv_sz n0 = bv_sz n - bv_sz n0 + (bv_sz n2 - bv_sz n) := by omega
    rw [e3, e4]
    exact Y')
  exact ⟨t2, go t2 a1, b1⟩
def bv_na (y : MethodName) (na : Nat) : Prop := y.cls ≠ "java/lang/invoke/MethodHandle" ∧ y.cls ≠ "java/lang/invoke/VarHandle" ∧ (parseMethodDescriptor y.desc).map (fun d => d.parameters.length) = some na
def bv_LV (own : String) (idx ci : Nat) (y : MethodName) (M' : bv_M) (na : Nat) : Prop := (Cond.methodLink own idx y ∈ lw_tbl ∧ Cond.instanceMethod y ∈ lw_tbl ∧ Cond.selects (bv_R ci) y y ∈ lw_tbl ∧ Cond.initialized (bv_R ci) ∈ lw_tbl ∧ Cond.code y M'.2.1 M'.2.2.1 M'.2.2.2.1 ∈ lw_tbl) ∧ (ci < 9 ∧ y.cls = bv_R ci ∧ bv_na y na) ∧ M'.2.2.1 ≤ 21
def bv_LS (own : String) (idx : Nat) (y : MethodName) (M' : bv_M) (na : Nat) : Prop := (Cond.methodLink own idx y ∈ lw_tbl ∧ Cond.static y ∈ lw_tbl ∧ Cond.initialized y.cls ∈ lw_tbl ∧ Cond.code y M'.2.1 M'.2.2.1 M'.2.2.2.1 ∈ lw_tbl) ∧ bv_na y na ∧ M'.2.2.1 ≤ 21
def bv_LSN (own : String) (idx : Nat) (y : MethodName) (M' : bv_M) (na : Nat) : Prop := (Cond.methodLinkNest own idx y RX7 ∈ lw_tbl ∧ Cond.static y ∈ lw_tbl ∧ Cond.initialized y.cls ∈ lw_tbl ∧ Cond.code y M'.2.1 M'.2.2.1 M'.2.2.2.1 ∈ lw_tbl) ∧ bv_na y na ∧ M'.2.2.1 ≤ 21
def bv_LI (own : String) (idx : Nat) (y : MethodName) (M' : bv_M) (na : Nat) : Prop := (Cond.methodLink own idx y ∈ lw_tbl ∧ Cond.instanceMethod y ∈ lw_tbl ∧ Cond.initialized y.cls ∈ lw_tbl ∧ Cond.code y M'.2.1 M'.2.2.1 M'.2.2.2.1 ∈ lw_tbl) ∧ (bv_na y na ∧ y.name = "<init>" ∧ M'.2.2.2.1 = none) ∧ M'.2.2.1 ≤ 21
def bv_LIN (own : String) (idx : Nat) (y : MethodName) (M' : bv_M) (na : Nat) : Prop := (Cond.methodLinkNest own idx y RX7 ∈ lw_tbl ∧ Cond.instanceMethod y ∈ lw_tbl ∧ Cond.initialized y.cls ∈ lw_tbl ∧ Cond.code y M'.2.1 M'.2.2.1 M'.2.2.2.1 ∈ lw_tbl) ∧ (bv_na y na ∧ y.name = "<init>" ∧ M'.2.2.2.1 = none) ∧ M'.2.2.1 ≤ 21
theorem bv_gt {w : Cond} (h : w ∈ lw_tbl) (hg : goodWord w = true) : w ∈ bv_TB := List.mem_filter.mpr ⟨h, hg⟩
theorem bv_gt2 {w : Cond} (h : w ∈ bv_TB) : w ∈ bv_TB ∧ ((w.onTables && w.keeps) = true ∨ ∃ ty, w = .arrayClass ty) := ⟨h, good_of_word (List.mem_filter.mp h).2⟩
theorem bv_ht {p : Program} {s : State} {m : MethodId} {args : Array Value} {meth : Method} {c : Code} {ad0 : Nat → Nat} {D : va_G} (hC : bv_C M X n0 p s m args meth c ad0 D) : ∀ w ∈ bv_TB, w.before args s = true := fun w hw => hC.2.2.2.2.1 w (List.mem_filter.mp hw).1 (List.mem_filter.mp hw).2
theorem bv_GI {y : MethodName} {M' : bv_M} (h : Cond.code y M'.2.1 M'.2.2.1 M'.2.2.2.1 ∈ lw_tbl) : GoodIn bv_TB (.code y M'.2.1 M'.2.2.1 M'.2.2.2.1 :: bv_TB) := fun w hw => by
  rcases List.mem_cons.mp hw with rfl | hw
  · exact bv_gt2 (bv_gt h rfl)
  · exact bv_gt2 hw
theorem ev_callV {n2 d' idx ci na a : Nat} {y : MethodName} {M' : bv_M} {X' : bv_Xt} {st0 : List Value} {Q' : Option Value → bv_Rfs → bv_Mem → Prop} (As : List Value) (lk : bv_LV M.1 idx ci y M' na) (hd : decode M.2.1 pc = .ok (.invokevirtual idx, 3)) (hst : st0 = As.reverse ++ .ref a :: st) (hna : As.length = na) (hg : bv_isC n a ci = true) (hX : ∀ j v, X' j = some v → X j = some v) (hM : bv_Met y M' X' d' n n2 (.ref a :: As) mr mi Q') (hdd : d' + 1 ≤ d) (hcat : (st.map fun v => v.category).sum ≤ 8) (h0 : n0 ≤ n) (h1 : n ≤ n2) (h2 : n2 ≤ n1) (hok : n2 = n ∨ (L.all (bv_oko n) = true ∧ st.all (bv_okv n) = true))
    (k : ∀ (r : Option Value) (mr' : bv_Rfs) (mi' : bv_Mem), Q' r mr' mi' → bv_Ev M X d n0 n1 Q (pc + 3) L (r.toList ++ st) n2 mr' mi') : bv_Ev M X d n0 n1 Q pc L st0 n mr mi := by
  intro l p e R s m args below meth c H locs ad0 ad ca0 ca D hC hR hag hW ls hl
  obtain ⟨⟨w1, w2, w3, w4, w5⟩, ⟨hci, hyc, hy1, hy2, hy3⟩, hmx⟩ := lk
  have hm0 := bv_sz_mono h0
  have hm1 := bv_sz_mono h1
  have hm2 := bv_sz_mono h2
  have hT : GoodIn bv_TB (wsV M.1 idx (bv_R ci) y (.code y M'.2.1 M'.2.2.1 M'.2.2.2.1 :: bv_TB)) := by
    intro w hw
    rcases List.mem_append.mp hw with hw | hw
    · simp only [List.mem_cons, List.not_mem_nil, or_false] at hw
      rcases hw with rfl | rfl | rfl | rfl
      · exact bv_gt2 (bv_gt w1 rfl)
      · exact bv_gt2 (bv_gt w2 rfl)
      · exact bv_gt2 (bv_gt w3 rfl)
      · exact bv_gt2 (bv_gt w4 rfl)
    · exact bv_GI (M' := M') w5 w hw
  refine bv_goes (n2 := n2) (a := (Value.ref (ad a) :: As.map (bv_cv ad)).toArray) (va_runV (As := As.map (bv_cv ad)) (rest := st.map (bv_cv ad)) ⟨hC.1, hC.2.1, hC.2.2.1, hC.2.2.2.1, bv_ht hC⟩ (hM l D ad ca H.size) (cwV na (bv_ht hC) hT rfl rfl rfl ⟨hyc, hy1, hy2, hy3⟩ ⟨Nat.le_trans hdd hR.1, by show 8 + (M'.2.2.1 + 11) + 40 * d' ≤ _; have h9 := hR.2.2.2; omega⟩) ⟨bv_blind, va_recv hC.2.2.2.2.2.2.2.2.1 hW.1 (bv_cl_at ci hci) (bv_obj hg), fun U hU hw => ⟨rfl, bv_pre hC hag hW hX hU hw⟩⟩ rfl (by rw [List.length_map]; exact hna) hl.1 (by rw [hst]; simp [bv_cv]) (lv_room (by rw [bv_cat_sum]; exact hcat)) hd ⟨by have h9 := hR.2.1; omega, by have h9 := hR.2.2.1; omega⟩) hC hR hag hW hl h0 h1 h2 hok k
theorem ev_callS {n2 d' idx na : Nat} {y : MethodName} {M' : bv_M} {X' : bv_Xt} {st0 : List Value} {Q' : Option Value → bv_Rfs → bv_Mem → Prop} (As : List Value) (lk : bv_LS M.1 idx y M' na) (hd : decode M.2.1 pc = .ok (.invokestatic idx, 3)) (hst : st0 = As.reverse ++ st) (hna : As.length = na) (hX : ∀ j v, X' j = some v → X j = some v) (hM : bv_Met y M' X' d' n n2 As mr mi Q') (hdd : d' + 1 ≤ d) (hcat : (st.map fun v => v.category).sum ≤ 8) (h0 : n0 ≤ n) (h1 : n ≤ n2) (h2 : n2 ≤ n1) (hok : n2 = n ∨ (L.all (bv_oko n) = true ∧ st.all (bv_okv n) = true))
    (k : ∀ (r : Option Value) (mr' : bv_Rfs) (mi' : bv_Mem), Q' r mr' mi' → bv_Ev M X d n0 n1 Q (pc + 3) L (r.toList ++ st) n2 mr' mi') : bv_Ev M X d n0 n1 Q pc L st0 n mr mi := by
  intro l p e R s m args below meth c H locs ad0 ad ca0 ca D hC hR hag hW ls hl
  obtain ⟨⟨w1, w2, w4, w5⟩, ⟨hy1, hy2, hy3⟩, hmx⟩ := lk
  have hm0 := bv_sz_mono h0
  have hm1 := bv_sz_mono h1
  have hm2 := bv_sz_mono h2
  have hT : GoodIn bv_TB (va_wsS M.1 idx y (.code y M'.2.1 M'.2.2.1 M'.2.2.2.1 :: bv_TB)) := by
    intro w hw
    rcases List.mem_append.mp hw with hw | hw
    · simp only [List.mem_cons, List.not_mem_nil, or_false] at hw
      rcases hw with rfl | rfl | rfl
      · exact bv_gt2 (bv_gt w1 rfl)
      · exact bv_gt2 (bv_gt w2 rfl)
      · exact bv_gt2 (bv_gt w4 rfl)
    · exact bv_GI (M' := M') w5 w hw
  refine bv_goes (n2 := n2) (a := (As.map (bv_cv ad)).toArray) (va_runS (As := As.map (bv_cv ad)) (rest := st.map (bv_cv ad)) ⟨hC.1, hC.2.1, hC.2.2.1, hC.2.2.2.1, bv_ht hC⟩ (hM l D ad ca H.size) (va_cwS na (bv_ht hC) hT rfl rfl rfl ⟨hy1, hy2, hy3⟩ ⟨Nat.le_trans hdd hR.1, by show 8 + (M'.2.2.1 + 11) + 40 * d' ≤ _; have h9 := hR.2.2.2; omega⟩) ⟨bv_blind, fun U hU hw => ⟨rfl, bv_pre hC hag hW hX hU hw⟩⟩ rfl (by rw [List.length_map]; exact hna) hl.1 (by rw [hst]; simp) (lv_room (by rw [bv_cat_sum]; exact hcat)) hd ⟨by have h9 := hR.2.1; omega, by have h9 := hR.2.2.1; omega⟩) hC hR hag hW hl h0 h1 h2 hok k
theorem ev_callSN {n2 d' idx na : Nat} {y : MethodName} {M' : bv_M} {X' : bv_Xt} {st0 : List Value} {Q' : Option Value → bv_Rfs → bv_Mem → Prop} (As : List Value) (lk : bv_LSN M.1 idx y M' na) (hd : decode M.2.1 pc = .ok (.invokestatic idx, 3)) (hst : st0 = As.reverse ++ st) (hna : As.length = na) (hX : ∀ j v, X' j = some v → X j = some v) (hM : bv_Met y M' X' d' n n2 As mr mi Q') (hdd : d' + 1 ≤ d) (hcat : (st.map fun v => v.category).sum ≤ 8) (h0 : n0 ≤ n) (h1 : n ≤ n2) (h2 : n2 ≤ n1) (hok : n2 = n ∨ (L.all (bv_oko n) = true ∧ st.all (bv_okv n) = true))
    (k : ∀ (r : Option Value) (mr' : bv_Rfs) (mi' : bv_Mem), Q' r mr' mi' → bv_Ev M X d n0 n1 Q (pc + 3) L (r.toList ++ st) n2 mr' mi') : bv_Ev M X d n0 n1 Q pc L st0 n mr mi := by
  intro l p e R s m args below meth c H locs ad0 ad ca0 ca D hC hR hag hW ls hl
  obtain ⟨⟨w1, w2, w4, w5⟩, ⟨hy1, hy2, hy3⟩, hmx⟩ := lk
  have hm0 := bv_sz_mono h0
  have hm1 := bv_sz_mono h1
  have hm2 := bv_sz_mono h2
  refine bv_goes (n2 := n2) (a := (As.map (bv_cv ad)).toArray) (va_runSN (As := As.map (bv_cv ad)) (rest := st.map (bv_cv ad)) ⟨hC.1, hC.2.1, hC.2.2.1, hC.2.2.2.1, bv_ht hC⟩ (hM l D ad ca H.size) ⟨va_cnB na (bv_ht hC) (bv_GI (M' := M') w5) rfl rfl rfl (hC.2.2.2.2.2.2.2.2.2.2.1 _ w1 rfl) (hC.2.2.2.2.1 _ w4 rfl) ⟨hy1, hy2, hy3⟩ ⟨Nat.le_trans hdd hR.1, by show 8 + (M'.2.2.1 + 11) + 40 * d' ≤ _; have h9 := hR.2.2.2; omega⟩, hC.2.2.2.2.1 _ w2 rfl, trivial⟩ ⟨bv_blind, fun U hU hw => ⟨rfl, bv_pre hC hag hW hX hU hw⟩⟩ rfl (by rw [List.length_map]; exact hna) hl.1 (by rw [hst]; simp) (lv_room (by rw [bv_cat_sum]; exact hcat)) hd ⟨by have h9 := hR.2.1; omega, by have h9 := hR.2.2.1; omega⟩) hC hR hag hW hl h0 h1 h2 hok k
theorem ev_callI {n2 d' idx na a : Nat} {y : MethodName} {M' : bv_M} {X' : bv_Xt} {st0 : List Value} {Q' : Option Value → bv_Rfs → bv_Mem → Prop} (As : List Value) (lk : bv_LI M.1 idx y M' na) (hd : decode M.2.1 pc = .ok (.invokespecial idx, 3)) (hst : st0 = As.reverse ++ .ref a :: st) (hna : As.length = na) (hX : ∀ j v, X' j = some v → X j = some v) (hM : bv_Met y M' X' d' n n2 (.ref a :: As) mr mi Q') (hdd : d' + 1 ≤ d) (hcat : (st.map fun v => v.category).sum ≤ 8) (h0 : n0 ≤ n) (h1 : n ≤ n2) (h2 : n2 ≤ n1) (hok : n2 = n ∨ (L.all (bv_oko n) = true ∧ st.all (bv_okv n) = true))
    (k : ∀ (r : Option Value) (mr' : bv_Rfs) (mi' : bv_Mem), Q' r mr' mi' → bv_Ev M X d n0 n1 Q (pc + 3) L (r.toList ++ st) n2 mr' mi') : bv_Ev M X d n0 n1 Q pc L st0 n mr mi := by
  intro l p e R s m args below meth c H locs ad0 ad ca0 ca D hC hR hag hW ls hl
  obtain ⟨⟨w1, w2, w4, w5⟩, ⟨⟨hy1, hy2, hy3⟩, hy4, hy5⟩, hmx⟩ := lk
  have hm0 := bv_sz_mono h0
  have hm1 := bv_sz_mono h1
  have hm2 := bv_sz_mono h2
  have hMM := hM l D ad ca H.size
  have hG := bv_GI (M' := M') w5
  rw [hy5] at hMM hG
  refine bv_goes (n2 := n2) (a := (Value.ref (ad a) :: As.map (bv_cv ad)).toArray) (va_runI (As := As.map (bv_cv ad)) (rest := st.map (bv_cv ad)) (b := ad a) ⟨hC.1, hC.2.1, hC.2.2.1, hC.2.2.2.1, bv_ht hC⟩ hMM (cwI na (bv_ht hC) hG rfl rfl rfl (hC.2.2.2.2.1 _ w4 rfl) (hC.2.2.2.2.1 _ w1 rfl) (hC.2.2.2.2.1 _ w2 rfl) hy4 ⟨hy1, hy2, hy3⟩ ⟨Nat.le_trans hdd hR.1, by show 8 + (M'.2.2.1 + 11) + 40 * d' ≤ _; have h9 := hR.2.2.2; omega⟩) ⟨bv_blind, fun U hU hw => ⟨rfl, bv_pre hC hag hW hX hU hw⟩⟩ rfl (by rw [List.length_map]; exact hna) hl.1 (by rw [hst]; simp [bv_cv]) (lv_room (by rw [bv_cat_sum]; exact hcat)) hd ⟨by have h9 := hR.2.1; omega, by have h9 := hR.2.2.1; omega⟩) hC hR hag hW hl h0 h1 h2 hok k
theorem ev_callIN {n2 d' idx na a : Nat} {y : MethodName} {M' : bv_M} {X' : bv_Xt} {st0 : List Value} {Q' : Option Value → bv_Rfs → bv_Mem → Prop} (As : List Value) (lk : bv_LIN M.1 idx y M' na) (hd : decode M.2.1 pc = .ok (.invokespecial idx, 3)) (hst : st0 = As.reverse ++ .ref a :: st) (hna : As.length = na) (hX : ∀ j v, X' j = some v → X j = some v) (hM : bv_Met y M' X' d' n n2 (.ref a :: As) mr mi Q') (hdd : d' + 1 ≤ d) (hcat : (st.map fun v => v.category).sum ≤ 8) (h0 : n0 ≤ n) (h1 : n ≤ n2) (h2 : n2 ≤ n1) (hok : n2 = n ∨ (L.all (bv_oko n) = true ∧ st.all (bv_okv n) = true))
    (k : ∀ (r : Option Value) (mr' : bv_Rfs) (mi' : bv_Mem), Q' r mr' mi' → bv_Ev M X d n0 n1 Q (pc + 3) L (r.toList ++ st) n2 mr' mi') : bv_Ev M X d n0 n1 Q pc L st0 n mr mi := by
  intro l p e R s m args below meth c H locs ad0 ad ca0 ca D hC hR hag hW ls hl
  obtain ⟨⟨w1, w2, w4, w5⟩, ⟨⟨hy1, hy2, hy3⟩, hy4, hy5⟩, hmx⟩ := lk
  have hm0 := bv_sz_mono h0
  have hm1 := bv_sz_mono h1
  have hm2 := bv_sz_mono h2
  have hMM := hM l D ad ca H.size
  have hG := bv_GI (M' := M') w5
  rw [hy5] at hMM hG
  refine bv_goes (n2 := n2) (a := (Value.ref (ad a) :: As.map (bv_cv ad)).toArray) (va_runIN (As := As.map (bv_cv ad)) (rest := st.map (bv_cv ad)) (b := ad a) ⟨hC.1, hC.2.1, hC.2.2.1, hC.2.2.2.1, bv_ht hC⟩ hMM ⟨va_cnB na (bv_ht hC) hG rfl rfl rfl (hC.2.2.2.2.2.2.2.2.2.2.1 _ w1 rfl) (hC.2.2.2.2.1 _ w4 rfl) ⟨hy1, hy2, hy3⟩ ⟨Nat.le_trans hdd hR.1, by show 8 + (M'.2.2.1 + 11) + 40 * d' ≤ _; have h9 := hR.2.2.2; omega⟩, hy4, hC.2.2.2.2.1 _ w2 rfl⟩ ⟨bv_blind, fun U hU hw => ⟨rfl, bv_pre hC hag hW hX hU hw⟩⟩ rfl (by rw [List.length_map]; exact hna) hl.1 (by rw [hst]; simp [bv_cv]) (lv_room (by rw [bv_cat_sum]; exact hcat)) hd ⟨by have h9 := hR.2.1; omega, by have h9 := hR.2.2.1; omega⟩) hC hR hag hW hl h0 h1 h2 hok k
end RULES3
