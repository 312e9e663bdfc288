theorem bv_uws : ∀ ci, ci < 9 → ∀ w ∈ u_ws (bv_R ci) (bv_T ci) (bv_nf ci), w ∈ lw_tbl := by
  intro ci h
  match ci, h with
  | 0, _ => exact (by decide +kernel : ∀ w ∈ u_ws RX0 TX0 6, w ∈ lw_tbl)
  | 1, _ => exact (by decide +kernel : ∀ w ∈ u_ws RX1 TX1 2, w ∈ lw_tbl)
  | 2, _ => exact (by decide +kernel : ∀ w ∈ u_ws RX2 TX2 6, w ∈ lw_tbl)
  | 3, _ => exact (by decide +kernel : ∀ w ∈ u_ws RX3 TX3 3, w ∈ lw_tbl)
  | 4, _ => exact (by decide +kernel : ∀ w ∈ u_ws RX4 TX4 2, w ∈ lw_tbl)
  | 5, _ => exact (by decide +kernel : ∀ w ∈ u_ws RX5 TX5 12, w ∈ lw_tbl)
  | 6, _ => exact (by decide +kernel : ∀ w ∈ u_ws RX6 TX6 5, w ∈ lw_tbl)
  | 7, _ => exact (by decide +kernel : ∀ w ∈ u_ws RX7 TX7 9, w ∈ lw_tbl)
  | 8, _ => exact (by decide +kernel : ∀ w ∈ u_ws RX8 TX8 19, w ∈ lw_tbl)
theorem bv_ty_ok : ∀ ci, ci < 9 → ∀ k, k < bv_nf ci → parseFieldDescriptor (bv_T ci k).2.2.1 = some (bv_fty ci k) := by
  intro ci h
  match ci, h with
  | 0, _ => exact tyX0_ok
  | 1, _ => exact tyX1_ok
  | 2, _ => exact tyX2_ok
  | 3, _ => exact tyX3_ok
  | 4, _ => exact tyX4_ok
  | 5, _ => exact tyX5_ok
  | 6, _ => exact tyX6_ok
  | 7, _ => exact tyX7_ok
  | 8, _ => exact tyX8_ok
theorem bv_nm_ok : ∀ ci, ci < 9 → ∀ a, a < bv_nf ci → ∀ b, b < bv_nf ci → a ≠ b → (bv_T ci a).2.1 ≠ (bv_T ci b).2.1 := by
  intro ci h
  match ci, h with
  | 0, _ => exact nmX0
  | 1, _ => exact nmX1
  | 2, _ => exact nmX2
  | 3, _ => exact nmX3
  | 4, _ => exact nmX4
  | 5, _ => exact nmX5
  | 6, _ => exact nmX6
  | 7, _ => exact nmX7
  | 8, _ => exact nmX8
theorem bv_cl_at : ∀ ci, ci < 9 → vwCl[ci]? = some (bv_R ci, bv_T ci, bv_nf ci) := by
  intro ci h
  match ci, h with
  | 0, _ => rfl
  | 1, _ => rfl
  | 2, _ => rfl
  | 3, _ => rfl
  | 4, _ => rfl
  | 5, _ => rfl
  | 6, _ => rfl
  | 7, _ => rfl
  | 8, _ => rfl
theorem bv_uws_good : ∀ (C : String) (T : u_T) (N : Nat), ∀ w ∈ u_ws C T N, goodWord w = true := by
  intro C T N w hw
  unfold u_ws at hw
  obtain ⟨k, -, rfl⟩ := List.mem_map.mp hw
  unfold u_lay
  split <;> rfl
theorem bv_hts {M : bv_M} {X : bv_Xt} {n0 : Nat} {p : Program} {s : State} {m : MethodId} {args : Array Value} {meth : Method} {c : Code} {ad0 : Nat → Nat} {D : va_G} (hC : bv_C M X n0 p s m args meth c ad0 D) {ci : Nat} (hc : ci < 9) : ∀ w ∈ u_ws (bv_R ci) (bv_T ci) (bv_nf ci), w.before args s = true := fun w hw => hC.2.2.2.2.1 w (bv_uws ci hc w hw) (bv_uws_good _ _ _ w hw)
/-- the field k of class ci stands at the entry idx of own's pool -/
def bv_FL (own : String) (idx ci k : Nat) : Prop := (ci < 9 ∧ k < bv_nf ci) ∧ Cond.fieldLink own idx (bv_T ci k).1 (bv_T ci k).2.1 (bv_T ci k).2.2.1 ∈ lw_tbl
def bv_fit (ty : FieldType) (v : Int32) : Bool := match ty with
  | .int => true
  | .boolean => decide (v = 0) || decide (v = 1)
  | _ => false
theorem bv_fit_spec {ty : FieldType} {v : Int32} (h : bv_fit ty v = true) : narrow ty (.int v) = .int v ∧ fits ty (.int v) = true := by
  cases ty <;> simp [bv_fit] at h
  · exact ⟨rfl, rfl⟩
  · rcases h with rfl | rfl <;> exact ⟨by decide, by decide⟩
section RULES2
variable {M : bv_M} {X : bv_Xt} {d n0 n1 : Nat} {Q : Option Value → bv_Rfs → bv_Mem → Prop} {pc : Nat} {L : List (Option Value)} {st : List Value} {n : Nat} {mr : bv_Rfs} {mi : bv_Mem}
theorem bv_fld {ad : Nat → Nat} {ca : Nat → ClassId} {a ci k : Nat} (hs : bv_sh a = .inr ci) (hk : k < bv_nf ci) : ((List.range (bv_nf ci)).map (fun j => if bv_isref (bv_fty ci j) = true then va_rf ((mr a j).map ad) else Value.int (mi a j)))[k]? = some (if bv_isref (bv_fty ci k) = true then va_rf ((mr a k).map ad) else .int (mi a k)) := by
  rw [List.getElem?_map, List.getElem?_range hk]
  rfl
theorem bv_obj {ad : Nat → Nat} {ca : Nat → ClassId} {a ci : Nat} (hg : bv_isC n a ci = true) : (bv_ws ad ca n mr mi)[a]? = some (ad a, .inr (ci, (List.range (bv_nf ci)).map (fun j => if bv_isref (bv_fty ci j) = true then va_rf ((mr a j).map ad) else .int (mi a j)))) := by
  obtain ⟨h1, h2⟩ := bv_isC_spec hg
  rw [bv_ws_at _ _ _ _ h1, h2]
  rfl
theorem bv_arr {ad : Nat → Nat} {ca : Nat → ClassId} {a N : Nat} {ty : FieldType} (h1 : a < n) (h2 : bv_sh a = .inl (ty, N)) (hr : bv_isref ty = false) : (bv_ws ad ca n mr mi)[a]? = some (ad a, .inl (ca a, N, .inl (mi a))) := by
  rw [bv_ws_at _ _ _ _ h1, h2]
  simp only [bv_cell, hr]
  rw [if_neg (by simp)]
theorem bv_arq {ad : Nat → Nat} {ca : Nat → ClassId} {a N : Nat} {ty : FieldType} (h1 : a < n) (h2 : bv_sh a = .inl (ty, N)) (hr : bv_isref ty = true) : (bv_ws ad ca n mr mi)[a]? = some (ad a, .inl (ca a, N, .inr (.inr (.inr (.inr (fun j => (mr a j).map ad)))))) := by
  rw [bv_ws_at _ _ _ _ h1, h2]
  simp only [bv_cell, hr]
  rw [if_pos trivial]
theorem bv_Kt {D : va_G} {ca : Nat → ClassId} {s : State} {a N : Nat} {ty : FieldType} (hK : va_K D vwCl [] s) (hAC : bv_AC ca n s) (h1 : a < n) (h2 : bv_sh a = .inl (ty, N)) : va_K D vwCl [(ca a, ty)] s := by
  refine ⟨hK.1, fun k q hk => ?_⟩
  match k, hk with
  | 0, hk => cases hk; exact hAC a h1 ty N h2
  | k + 1, hk => simp at hk
theorem ev_getI {a ci k idx : Nat} (hf : bv_FL M.1 idx ci k) (hd : decode M.2.1 pc = .ok (.getfield idx, 3)) (hg : bv_isC n a ci = true) (hr : bv_isref (bv_fty ci k) = false) (kk : bv_Ev M X d n0 n1 Q (pc + 3) L (.int (mi a k) :: st) n mr mi) : bv_Ev M X d n0 n1 Q pc L (.ref a :: st) n mr mi := by
  intro l p e R s m args below meth c H locs ad0 ad ca0 ca D hC hR hag hW ls hl
  obtain ⟨⟨hc, hk⟩, hl1⟩ := hf
  refine va_get (v := .int (mi a k)) hC.1 hC.2.1 (bv_hts hC hc) (fun _ h => h) hC.2.2.2.1 hC.2.2.2.2.2.2.2.2.1 hW.1 a (bv_obj hg) (bv_cl_at ci hc) k hk (hC.2.2.2.2.1 _ hl1 rfl) (fun _ h9 => h9) ?_ hd (kk l p e R s m args below meth c H locs ad0 ad ca0 ca D hC hR hag hW ls hl)
  rw [bv_fld (ca := ca) (bv_isC_spec hg).2 hk, hr]
  rfl
theorem ev_getR {a ci k idx : Nat} (q : Nat) (hf : bv_FL M.1 idx ci k) (hd : decode M.2.1 pc = .ok (.getfield idx, 3)) (hg : bv_isC n a ci = true) (hr : bv_isref (bv_fty ci k) = true) (hq : mr a k = some q) (kk : bv_Ev M X d n0 n1 Q (pc + 3) L (.ref q :: st) n mr mi) : bv_Ev M X d n0 n1 Q pc L (.ref a :: st) n mr mi := by
  intro l p e R s m args below meth c H locs ad0 ad ca0 ca D hC hR hag hW ls hl
  obtain ⟨⟨hc, hk⟩, hl1⟩ := hf
  refine va_get (v := .ref (ad q)) hC.1 hC.2.1 (bv_hts hC hc) (fun _ h => h) hC.2.2.2.1 hC.2.2.2.2.2.2.2.2.1 hW.1 a (bv_obj hg) (bv_cl_at ci hc) k hk (hC.2.2.2.2.1 _ hl1 rfl) (fun _ h9 => h9) ?_ hd (kk l p e R s m args below meth c H locs ad0 ad ca0 ca D hC hR hag hW ls hl)
  rw [bv_fld (ca := ca) (bv_isC_spec hg).2 hk, hr, hq]
  rfl
theorem ev_putI {a ci k idx : Nat} {v : Int32} (hf : bv_FL M.1 idx ci k) (hd : decode M.2.1 pc = .ok (.putfield idx, 3)) (hg : bv_isC n a ci = true) (hr : bv_isref (bv_fty ci k) = false) (hfin : (bv_T ci k).2.2.2 = false) (hv : bv_fit (bv_fty ci k) v = true) (kk : bv_Ev M X d n0 n1 Q (pc + 3) L st n mr (bv_up mi a k v)) : bv_Ev M X d n0 n1 Q pc L (.int v :: .ref a :: st) n mr mi := by
  intro l p e R s m args below meth c H locs ad0 ad ca0 ca D hC hR hag hW ls hl
  obtain ⟨⟨hc, hk⟩, hl1⟩ := hf
  refine va_put (v := .int v) (ty := bv_fty ci k) hC.1 hC.2.1 (bv_hts hC hc) (fun _ h => h) (bv_fty ci) (bv_ty_ok ci hc) (bv_nm_ok ci hc) hC.2.2.2.1 hC.2.2.2.2.2.2.2.2.1 hW.1 hW.2.1 hW.2.2.1 a (bv_obj hg) (bv_cl_at ci hc) k hk (hC.2.2.2.2.1 _ hl1 rfl) (fun _ h9 => h9) hfin (bv_ty_ok ci hc k hk) (bv_fit_spec hv).1 (bv_fit_spec hv).2 (by rw [List.length_map, List.length_range]; exact hk) hd (fun H1 locs1 hP hD hS => ?_)
  rw [bv_ws_putI (bv_isC_spec hg).2 hr] at hP hD
  exact kk l p e R s m args below meth c H1 locs1 ad0 ad ca0 ca D hC hR hag ⟨hP, hD, hS, hW.2.2.2.1, hW.2.2.2.2⟩ ls hl
theorem bv_mb_up {a k q : Nat} (h : bv_mb n mr) (hq : q < n) : bv_mb n (bv_upr mr a k (some q)) := by
  intro k' j' q' h'
  unfold bv_upr at h'
  split at h'
  · cases h'; exact hq
  · exact h k' j' q' h'
theorem bv_ref_ok {ty : FieldType} {q : Nat} (hr : bv_isref ty = true) : narrow ty (.ref q) = .ref q ∧ fits ty (.ref q) = true := by
  cases ty <;> simp [bv_isref] at hr <;> exact ⟨rfl, rfl⟩
theorem ev_putR {a ci k idx q : Nat} (hf : bv_FL M.1 idx ci k) (hd : decode M.2.1 pc = .ok (.putfield idx, 3)) (hg : bv_isC n a ci = true) (hr : bv_isref (bv_fty ci k) = true) (hfin : (bv_T ci k).2.2.2 = false) (hq : q < n) (kk : bv_Ev M X d n0 n1 Q (pc + 3) L st n (bv_upr mr a k (some q)) mi) : bv_Ev M X d n0 n1 Q pc L (.ref q :: .ref a :: st) n mr mi := by
  intro l p e R s m args below meth c H locs ad0 ad ca0 ca D hC hR hag hW ls hl
  obtain ⟨⟨hc, hk⟩, hl1⟩ := hf
  refine va_put (v := .ref (ad q)) (ty := bv_fty ci k) hC.1 hC.2.1 (bv_hts hC hc) (fun _ h => h) (bv_fty ci) (bv_ty_ok ci hc) (bv_nm_ok ci hc) hC.2.2.2.1 hC.2.2.2.2.2.2.2.2.1 hW.1 hW.2.1 hW.2.2.1 a (bv_obj hg) (bv_cl_at ci hc) k hk (hC.2.2.2.2.1 _ hl1 rfl) (fun _ h9 => h9) hfin (bv_ty_ok ci hc k hk) (bv_ref_ok hr).1 (bv_ref_ok hr).2 (by rw [List.length_map, List.length_range]; exact hk) hd (fun H1 locs1 hP hD hS => ?_)
  rw [bv_ws_putR (bv_isC_spec hg).2 hr] at hP hD
  exact kk l p e R s m args below meth c H1 locs1 ad0 ad ca0 ca D hC hR hag ⟨hP, hD, hS, hW.2.2.2.1, bv_mb_up hW.2.2.2.2 hq⟩ ls hl
theorem ev_putRF {a ci k idx q : Nat} (hf : bv_FL M.1 idx ci k) (hd : decode M.2.1 pc = .ok (.putfield idx, 3)) (hg : bv_isC n a ci = true) (hr : bv_isref (bv_fty ci k) = true) (hfin : (bv_T ci k).2.2.2 = true) (hin : M.2.2.2.2 = true) (ho : (bv_T ci k).1 = M.1) (hq : q < n) (kk : bv_Ev M X d n0 n1 Q (pc + 3) L st n (bv_upr mr a k (some q)) mi) : bv_Ev M X d n0 n1 Q pc L (.ref q :: .ref a :: st) n mr mi := by
  intro l p e R s m args below meth c H locs ad0 ad ca0 ca D hC hR hag hW ls hl
  obtain ⟨⟨hc, hk⟩, hl1⟩ := hf
  refine va_putF (v := .ref (ad q)) (ty := bv_fty ci k) hC.1 hC.2.1 (bv_hts hC hc) (fun _ h => h) (bv_fty ci) (bv_ty_ok ci hc) (bv_nm_ok ci hc) hC.2.2.2.1 hC.2.2.2.2.2.2.2.2.1 hW.1 hW.2.1 hW.2.2.1 a (bv_obj hg) (bv_cl_at ci hc) k hk (hC.2.2.2.2.1 _ hl1 rfl) (fun _ h9 => h9) hfin (hC.2.2.2.2.2.2.2.1 hin) ho (bv_ty_ok ci hc k hk) (bv_ref_ok hr).1 (bv_ref_ok hr).2 (by rw [List.length_map, List.length_range]; exact hk) hd (fun H1 locs1 hP hD hS => ?_)
  rw [bv_ws_putR (bv_isC_spec hg).2 hr] at hP hD
  exact kk l p e R s m args below meth c H1 locs1 ad0 ad ca0 ca D hC hR hag ⟨hP, hD, hS, hW.2.2.2.1, bv_mb_up hW.2.2.2.2 hq⟩ ls hl
theorem ev_iald {a N : Nat} {i : Int32} (hd : decode M.2.1 pc = .ok (.iaload, 1)) (hg : bv_isA n a 0 N = true) (hi : bv_in i N = true) (kk : bv_Ev M X d n0 n1 Q (pc + 1) L (.int (mi a i.toNatClampNeg) :: st) n mr mi) : bv_Ev M X d n0 n1 Q pc L (.int i :: .ref a :: st) n mr mi := by
  intro l p e R s m args below meth c H locs ad0 ad ca0 ca D hC hR hag hW ls hl
  obtain ⟨h1, ty, h2, h3⟩ := bv_isA_spec hg
  obtain rfl := bv_kd0 h3
  exact va_iald hC.1 hC.2.1 (bv_Kt hC.2.2.2.2.2.2.2.2.1 hW.2.2.2.1 h1 h2) hW.1 a 0 (bv_arr h1 h2 rfl) rfl (bv_in_vp hi) hd (kk l p e R s m args below meth c H locs ad0 ad ca0 ca D hC hR hag hW ls hl)
theorem ev_bald {a N : Nat} {i : Int32} (hd : decode M.2.1 pc = .ok (.baload, 1)) (hg : bv_isA n a 1 N = true) (hi : bv_in i N = true) (kk : bv_Ev M X d n0 n1 Q (pc + 1) L (.int (mi a i.toNatClampNeg) :: st) n mr mi) : bv_Ev M X d n0 n1 Q pc L (.int i :: .ref a :: st) n mr mi := by
  intro l p e R s m args below meth c H locs ad0 ad ca0 ca D hC hR hag hW ls hl
  obtain ⟨h1, ty, h2, h3⟩ := bv_isA_spec hg
  obtain rfl := bv_kd1 h3
  exact va_bald hC.1 hC.2.1 (bv_Kt hC.2.2.2.2.2.2.2.2.1 hW.2.2.2.1 h1 h2) hW.1 a 0 (bv_arr h1 h2 rfl) rfl (bv_in_vp hi) hd (kk l p e R s m args below meth c H locs ad0 ad ca0 ca D hC hR hag hW ls hl)
theorem ev_aald {a N : Nat} {i : Int32} (q : Nat) (hd : decode M.2.1 pc = .ok (.aaload, 1)) (hg : bv_isA n a 2 N = true) (hi : bv_in i N = true) (hq : mr a i.toNatClampNeg = some q) (kk : bv_Ev M X d n0 n1 Q (pc + 1) L (.ref q :: st) n mr mi) : bv_Ev M X d n0 n1 Q pc L (.int i :: .ref a :: st) n mr mi := by
  intro l p e R s m args below meth c H locs ad0 ad ca0 ca D hC hR hag hW ls hl
  obtain ⟨h1, ty, h2, h3⟩ := bv_isA_spec hg
  obtain ⟨C, rfl⟩ := bv_kd2 h3
  refine va_aldq hC.1 hC.2.1 (bv_Kt hC.2.2.2.2.2.2.2.2.1 hW.2.2.2.1 h1 h2) hW.1 a 0 (bv_arq h1 h2 rfl) rfl (bv_in_vp hi) hd ?_
  rw [hq]
  exact kk l p e R s m args below meth c H locs ad0 ad ca0 ca D hC hR hag hW ls hl
theorem ev_iast {a N : Nat} {i v : Int32} (hd : decode M.2.1 pc = .ok (.iastore, 1)) (hg : bv_isA n a 0 N = true) (hi : bv_in i N = true) (kk : bv_Ev M X d n0 n1 Q (pc + 1) L st n mr (bv_up mi a i.toNatClampNeg v)) : bv_Ev M X d n0 n1 Q pc L (.int v :: .int i :: .ref a :: st) n mr mi := by
  intro l p e R s m args below meth c H locs ad0 ad ca0 ca D hC hR hag hW ls hl
  obtain ⟨h1, ty, h2, h3⟩ := bv_isA_spec hg
  obtain rfl := bv_kd0 h3
  refine va_iast hC.1 hC.2.1 (bv_Kt hC.2.2.2.2.2.2.2.2.1 hW.2.2.2.1 h1 h2) hW.1 hW.2.1 hW.2.2.1 a 0 (bv_arr h1 h2 rfl) rfl (bv_in_vp hi) hd (fun H1 locs1 hP hD hS => ?_)
  rw [bv_ws_iast h2 rfl] at hP hD
  exact kk l p e R s m args below meth c H1 locs1 ad0 ad ca0 ca D hC hR hag ⟨hP, hD, hS, hW.2.2.2.1, hW.2.2.2.2⟩ ls hl
theorem ev_bast {a N : Nat} {i v : Int32} (hd : decode M.2.1 pc = .ok (.bastore, 1)) (hg : bv_isA n a 1 N = true) (hi : bv_in i N = true) (kk : bv_Ev M X d n0 n1 Q (pc + 1) L st n mr (bv_up mi a i.toNatClampNeg v.toInt8.toInt32)) : bv_Ev M X d n0 n1 Q pc L (.int v :: .int i :: .ref a :: st) n mr mi := by
  intro l p e R s m args below meth c H locs ad0 ad ca0 ca D hC hR hag hW ls hl
  obtain ⟨h1, ty, h2, h3⟩ := bv_isA_spec hg
  obtain rfl := bv_kd1 h3
  refine va_bast hC.1 hC.2.1 (bv_Kt hC.2.2.2.2.2.2.2.2.1 hW.2.2.2.1 h1 h2) hW.1 hW.2.1 hW.2.2.1 a 0 (bv_arr h1 h2 rfl) rfl (bv_in_vp hi) hd (fun H1 locs1 hP hD hS => ?_)
  rw [vp_nar_byte, bv_ws_iast h2 rfl] at hP hD
  exact kk l p e R s m args below meth c H1 locs1 ad0 ad ca0 ca D hC hR hag ⟨hP, hD, hS, hW.2.2.2.1, hW.2.2.2.2⟩ ls hl
theorem ev_aast {a N q ci : Nat} {i : Int32} (hd : decode M.2.1 pc = .ok (.aastore, 1)) (h1 : a < n) (h2 : bv_sh a = .inl (.object (bv_R ci), N)) (hc : ci < 9) (hq : bv_isC n q ci = true) (hi : bv_in i N = true) (kk : bv_Ev M X d n0 n1 Q (pc + 1) L st n (bv_upr mr a i.toNatClampNeg (some q)) mi) : bv_Ev M X d n0 n1 Q pc L (.ref q :: .int i :: .ref a :: st) n mr mi := by
  intro l p e R s m args below meth c H locs ad0 ad ca0 ca D hC hR hag hW ls hl
  refine va_astq hC.1 hC.2.1 (bv_Kt hC.2.2.2.2.2.2.2.2.1 hW.2.2.2.1 h1 h2) hW.1 hW.2.1 hW.2.2.1 a 0 q ci (r := (bv_R ci, bv_T ci, bv_nf ci)) (bv_arq h1 h2 rfl) rfl (bv_obj hq) (bv_cl_at ci hc) (bv_in_vp hi) hd (fun H1 locs1 hP hD hS => ?_)
  rw [bv_ws_aast h2 rfl] at hP hD
  exact kk l p e R s m args below meth c H1 locs1 ad0 ad ca0 ca D hC hR hag ⟨hP, hD, hS, hW.2.2.2.1, bv_mb_up hW.2.2.2.2 (bv_isC_spec hq).1⟩ ls hl
theorem ev_alen {a kd N : Nat} (v : Int32) (hd : decode M.2.1 pc = .ok (.arraylength, 1)) (hg : bv_isA n a kd N = true) (hkd : kd < 2) (hv : Int32.ofNat N = v) (kk : bv_Ev M X d n0 n1 Q (pc + 1) L (.int v :: st) n mr mi) : bv_Ev M X d n0 n1 Q pc L (.ref a :: st) n mr mi := by
  intro l p e R s m args below meth c H locs ad0 ad ca0 ca D hC hR hag hW ls hl
  obtain ⟨h1, ty, h2, h3⟩ := bv_isA_spec hg
  have hr : bv_isref ty = false := by
    cases ty <;> simp [bv_kd] at h3 <;> first | rfl | omega
  exact va_alen hC.1 hC.2.1 (bv_Kt hC.2.2.2.2.2.2.2.2.1 hW.2.2.2.1 h1 h2) hW.1 a 0 (bv_arr h1 h2 hr) rfl hv hd (kk l p e R s m args below meth c H locs ad0 ad ca0 ca D hC hR hag hW ls hl)
/-- arrays from outside: the class's statics, and the script -/
theorem ev_xld {j N : Nat} {f : Nat → Int32} {i : Int32} (hd : decode M.2.1 pc = .ok (.iaload, 1)) (hx : X j = some (.int, N, f)) (hi : bv_in i N = true) (kk : bv_Ev M X d n0 n1 Q (pc + 1) L (.int (f i.toNatClampNeg) :: st) n mr mi) : bv_Ev M X d n0 n1 Q pc L (.int i :: .ref (1000 + j) :: st) n mr mi := by
  intro l p e R s m args below meth c H locs ad0 ad ca0 ca D hC hR hag hW ls hl
  have hX := hC.2.2.2.2.2.2.2.2.2.1.1 j .int N f hx
  rw [← (hag.2 (1000 + j) (Or.inr (by omega))).1] at hX
  exact va_ti hC.1 hC.2.1 hX hW.2.2.1 (bv_in_vp hi) rfl hd (kk l p e R s m args below meth c H locs ad0 ad ca0 ca D hC hR hag hW ls hl)
theorem ev_xldc {j N : Nat} {f : Nat → Int32} {i : Int32} (hd : decode M.2.1 pc = .ok (.caload, 1)) (hx : X j = some (.char, N, f)) (hi : bv_in i N = true) (kk : bv_Ev M X d n0 n1 Q (pc + 1) L (.int (f i.toNatClampNeg) :: st) n mr mi) : bv_Ev M X d n0 n1 Q pc L (.int i :: .ref (1000 + j) :: st) n mr mi := by
  intro l p e R s m args below meth c H locs ad0 ad ca0 ca D hC hR hag hW ls hl
  have hX := hC.2.2.2.2.2.2.2.2.2.1.1 j .char N f hx
  rw [← (hag.2 (1000 + j) (Or.inr (by omega))).1] at hX
  exact va_tc hC.1 hC.2.1 hX hW.2.2.1 (bv_in_vp hi) rfl hd (kk l p e R s m args below meth c H locs ad0 ad ca0 ca D hC hR hag hW ls hl)
theorem ev_xlen {j N : Nat} {f : Nat → Int32} (v : Int32) (hd : decode M.2.1 pc = .ok (.arraylength, 1)) (hx : X j = some (.int, N, f)) (hv : Int32.ofNat N = v) (kk : bv_Ev M X d n0 n1 Q (pc + 1) L (.int v :: st) n mr mi) : bv_Ev M X d n0 n1 Q pc L (.ref (1000 + j) :: st) n mr mi := by
  intro l p e R s m args below meth c H locs ad0 ad ca0 ca D hC hR hag hW ls hl
  have hX := hC.2.2.2.2.2.2.2.2.2.1.1 j .int N f hx
  rw [← (hag.2 (1000 + j) (Or.inr (by omega))).1] at hX
  exact va_tlen hC.1 hC.2.1 hX hW.2.2.1 hv hd (kk l p e R s m args below meth c H locs ad0 ad ca0 ca D hC hR hag hW ls hl)
theorem ev_gets {j idx : Nat} (hd : decode M.2.1 pc = .ok (.getstatic idx, 3)) (hj : j < 3) (hk : Cond.fieldLinkNest M.1 idx RX7 (bv_sn j) (bv_sd j) RX7 ∈ lw_tbl) (kk : bv_Ev M X d n0 n1 Q (pc + 3) L (.ref (1000 + j) :: st) n mr mi) : bv_Ev M X d n0 n1 Q pc L st n mr mi := by
  intro l p e R s m args below meth c H locs ad0 ad ca0 ca D hC hR hag hW ls hl
  have hX := hC.2.2.2.2.2.2.2.2.2.1.2 j hj
  rw [← (hag.2 (1000 + j) (Or.inr (by omega))).1] at hX
  exact va_getsN hC.1 hC.2.1 hX hW.2.2.1 hC.2.2.2.1 (va_Nw.use rfl (hC.2.2.2.2.2.2.2.2.2.2.1 _ hk rfl)) (fun _ h9 => h9) hd (kk l p e R s m args below meth c H locs ad0 ad ca0 ca D hC hR hag hW ls hl)
theorem ev_copy {a b kd N0 N1 idx : Nat} {sp dp m : Int32} (hd : decode M.2.1 pc = .ok (.invokestatic idx, 3)) (hlk : Cond.methodLink M.1 idx arraycopyName ∈ lw_tbl) (hn2 : Cond.native arraycopyName ∈ lw_tbl) (hs2 : Cond.static arraycopyName ∈ lw_tbl) (hi2 : Cond.initialized "java/lang/System" ∈ lw_tbl)
    (hkd : kd < 2) (hg0 : bv_isA n a kd N0 = true) (hg1 : bv_isA n b kd N1 = true) (h1 : ¬ sp < 0) (h2 : ¬ dp < 0) (h3 : ¬ m < 0) (h4 : sp.toNatClampNeg + m.toNatClampNeg ≤ N0) (h5 : dp.toNatClampNeg + m.toNatClampNeg ≤ N1) (hfit : kd = 1 → ∀ i, i < m.toNatClampNeg → fits .byte (.int (mi a (sp.toNatClampNeg + i))) = true)
    (hdp : 1 ≤ d) (hst : (st.map fun v => v.category).sum ≤ 8)
    (kk : bv_Ev M X d n0 n1 Q (pc + 3) L st n mr (bv_cp mi a b sp.toNatClampNeg dp.toNatClampNeg m.toNatClampNeg)) : bv_Ev M X d n0 n1 Q pc L (.int m :: .int dp :: .ref b :: .int sp :: .ref a :: st) n mr mi := by
  intro l p e R s m2 args below meth c H locs ad0 ad ca0 ca D hC hR hag hW ls hl
  obtain ⟨p1, ty, p2, p3⟩ := bv_isA_spec hg0
  obtain ⟨q1, ty', q2, q3⟩ := bv_isA_spec hg1
  have hty : ty' = ty := by
    match kd, hkd with
    | 0, _ => rw [bv_kd0 p3, bv_kd0 q3]
    | 1, _ => rw [bv_kd1 p3, bv_kd1 q3]
  subst hty
  have hr : bv_isref ty' = false := by
    cases ty' <;> simp [bv_kd] at p3 <;> first | rfl | omega
  have hrk : refKind ty' = false := by
    cases ty' <;> simp [bv_isref] at hr <;> rfl
  have hK : va_K D vwCl [(ca a, ty'), (ca b, ty')] s := (bv_Kt hC.2.2.2.2.2.2.2.2.1 hW.2.2.2.1 p1 p2).app (t2 := [(ca b, ty')]) (bv_Kt hC.2.2.2.2.2.2.2.2.1 hW.2.2.2.1 q1 q2)
  have hcat : ((st.map (bv_cv ad)).map fun v => v.category).sum = (st.map fun v => v.category).sum := by
    rw [List.map_map]
    congr 1
    apply List.map_congr_left
    intro v _
    exact bv_cv_cat ad v
  refine va_copyi (ty := ty') hC.1 hC.2.1 (hC.2.2.1.trans hl.1.symm) hC.2.2.2.1 (hC.2.2.2.2.1 _ hlk rfl) (hC.2.2.2.2.1 _ hn2 rfl) (hC.2.2.2.2.1 _ hs2 rfl) (hC.2.2.2.2.1 _ hi2 rfl) hK hW.1 hW.2.1 hW.2.2.1 a b 0 1 (bv_arr p1 p2 hr) (bv_arr q1 q2 hr) rfl rfl hrk h1 h2 h3 h4 h5 ?_ (Nat.le_trans hdp hR.1) ?_ hd (fun H1 locs1 hP hD hS => ?_)
  · intro i hi
    match kd, hkd with
    | 0, _ => rw [bv_kd0 p3]; rfl
    | 1, _ => rw [bv_kd1 p3]; exact hfit rfl i hi
  · rw [hcat]
    have h9 := hR.2.2.2
    have : nativeFrameWords "java/lang/System" "arraycopy" 5 + 11 ≤ 32 := by decide +kernel
    omega
  · rw [bv_ws_copy q2 hr] at hP hD
    exact kk l p e R s m2 args below meth c H1 locs1 ad0 ad ca0 ca D hC hR hag ⟨hP, hD, hS, hW.2.2.2.1, hW.2.2.2.2⟩ ls hl
end RULES2
