/-! rows that read and write cells -/
def hf_up (I : Nat → Nat → Int32) (a j : Nat) (v : Int32) : Nat → Nat → Int32 := fun b => if b = a then upd (I a) j v else I b
def hf_upL (L : Nat → Nat → Int64) (a j : Nat) (v : Int64) : Nat → Nat → Int64 := fun b => if b = a then vp_updL (L a) j v else L b
def hf_upP (P : Nat → Nat → Option Nat) (a j : Nat) (v : Option Nat) : Nat → Nat → Option Nat := fun b => if b = a then va_up (P a) j v else P b
theorem hf_K {B : Nat} {ad : Nat → Nat} {D : va_G} {dA : Nat → ClassId} {Lx : Nat} {xs : Nat → Int32} {s : State} (h : hf_w B ad D dA Lx xs s) : va_K D vwCl (hf_tys dA) s := h.1
theorem hf_cm_obj {B : Nat} {ad : Nat → Nat} {dA : Nat → ClassId} {M : hf_M} {a c z : Nat} (h : M.2.1 a = (c, z)) (hc : c < 100) : hf_cm B ad dA M a = .inr (c, hf_fs B ad c (M.2.2.1 a) (M.2.2.2.1 a) (M.2.2.2.2 a)) := by
  unfold hf_cm hf_c
  rw [h, if_pos hc]
theorem hf_fs_at {B : Nat} {ad : Nat → Nat} {c : Nat} {i : Nat → Int32} {l : Nat → Int64} {p : Nat → Option Nat} {j : Nat} (h : j < hf_N c) : (hf_fs B ad c i l p)[j]? = some (hf_fv B ad (hf_ty c j) (i j) (l j) (p j)) := by
  unfold hf_fs
  rw [List.getElem?_map, List.getElem?_range h]
  rfl
theorem hf_fs_len {B : Nat} {ad : Nat → Nat} {c : Nat} {i : Nat → Int32} {l : Nat → Int64} {p : Nat → Option Nat} : (hf_fs B ad c i l p).length = hf_N c := by
  unfold hf_fs
  simp
theorem hf_fs_set {B : Nat} {ad : Nat → Nat} {c : Nat} {i i' : Nat → Int32} {l l' : Nat → Int64} {p p' : Nat → Option Nat} {j : Nat} {v : Value} (hj : j < hf_N c) (ho : ∀ q, q ≠ j → i' q = i q ∧ l' q = l q ∧ p' q = p q) (hv : hf_fv B ad (hf_ty c j) (i' j) (l' j) (p' j) = v) : (hf_fs B ad c i l p).set j v = hf_fs B ad c i' l' p' := by
  apply List.ext_getElem?
  intro q
  rw [List.getElem?_set]
  by_cases hq : j = q
  · subst hq
    rw [if_pos rfl, if_pos (by rw [hf_fs_len]; exact hj), hf_fs_at hj, hv]
  · rw [if_neg hq]
    unfold hf_fs
    rw [List.getElem?_map, List.getElem?_map]
    by_cases hk : q < hf_N c
    · rw [List.getElem?_range hk]
      obtain ⟨h1, h2, h3⟩ := ho q (fun h => hq h.symm)
      simp only [Option.map_some]
      rw [h1, h2, h3]
    · rw [List.getElem?_eq_none (by simp; omega)]
      rfl
/-- what a class's number stands for -/
def hf_cl (c : Nat) : vw_C := (vwCl[c]?).getD (RX0, TX0, 2)
theorem hf_cl_ok : ∀ c, c < 13 → vwCl[c]? = some (hf_cl c) ∧ hf_N c = (hf_cl c).2.2 := by
  intro c hc
  match c, hc with
  | 0, _ => exact ⟨rfl, rfl⟩
  | 1, _ => exact ⟨rfl, rfl⟩
  | 2, _ => exact ⟨rfl, rfl⟩
  | 3, _ => exact ⟨rfl, rfl⟩
  | 4, _ => exact ⟨rfl, rfl⟩
  | 5, _ => exact ⟨rfl, rfl⟩
  | 6, _ => exact ⟨rfl, rfl⟩
  | 7, _ => exact ⟨rfl, rfl⟩
  | 8, _ => exact ⟨rfl, rfl⟩
  | 9, _ => exact ⟨rfl, rfl⟩
  | 10, _ => exact ⟨rfl, rfl⟩
  | 11, _ => exact ⟨rfl, rfl⟩
  | 12, _ => exact ⟨rfl, rfl⟩
theorem hf_cl_in : ∀ c, c < 13 → ∀ w ∈ u_ws (hf_cl c).1 (hf_cl c).2.1 (hf_cl c).2.2, w ∈ hf_tb := by
  intro c hc
  match c, hc with
  | 0, _ => exact hinX0
  | 1, _ => exact hinX1
  | 2, _ => exact hinX2
  | 3, _ => exact hinX3
  | 4, _ => exact hinX4
  | 5, _ => exact hinX5
  | 6, _ => exact hinX6
  | 7, _ => exact hinX7
  | 8, _ => exact hinX8
  | 9, _ => exact hinX9
  | 10, _ => exact hinX10
  | 11, _ => exact hinX11
  | 12, _ => exact hinX12
theorem hf_cl_ty : ∀ c, c < 13 → ∀ k, k < (hf_cl c).2.2 → parseFieldDescriptor ((hf_cl c).2.1 k).2.2.1 = some (hf_ty c k) := by
  intro c hc
  match c, hc with
  | 0, _ => exact tyX0_ok
  | 1, _ => exact tyX1_ok
  | 2, _ => exact tyX2_ok
  | 3, _ => exact tyX3_ok
  | 4, _ => exact tyX4_ok
  | 5, _ => exact tyX5_ok
  | 6, _ => exact tyX6_ok
  | 7, _ => exact tyX7_ok
  | 8, _ => exact tyX8_ok
  | 9, _ => exact tyX9_ok
  | 10, _ => exact tyX10_ok
  | 11, _ => exact tyX11_ok
  | 12, _ => exact tyX12_ok
theorem hf_cl_nm : ∀ c, c < 13 → ∀ a, a < (hf_cl c).2.2 → ∀ b, b < (hf_cl c).2.2 → a ≠ b → ((hf_cl c).2.1 a).2.1 ≠ ((hf_cl c).2.1 b).2.1 := by
  intro c hc
  match c, hc with
  | 0, _ => exact nmX0
  | 1, _ => exact nmX1
  | 2, _ => exact nmX2
  | 3, _ => exact nmX3
  | 4, _ => exact nmX4
  | 5, _ => exact nmX5
  | 6, _ => exact nmX6
  | 7, _ => exact nmX7
  | 8, _ => exact nmX8
  | 9, _ => exact nmX9
  | 10, _ => exact nmX10
  | 11, _ => exact nmX11
  | 12, _ => exact nmX12
/-- the word that a field's instruction leans on: the class c's field j, named by the pool entry ix of the method's class -/
def hf_fl (own : String) (ix c j : Nat) : Cond := Cond.fieldLink own ix ((hf_cl c).2.1 j).1 ((hf_cl c).2.1 j).2.1 ((hf_cl c).2.1 j).2.2.1
section HP
variable {p : Program} {l : Launch} {e : Env} {R : Room} {s : State} {m : MethodId} {args : Array Value} {below : List Frame} {meth : Method} {c : Code} {H : Heap} {locs : List Loc} {cells slots : Nat} {Q : State → Prop}
variable {cc : ByteArray} {pc : Nat} {ls : Array Slot} {rest : List Value} {D : va_G} {cl : List vw_C} {tys : List (ClassId × FieldType)} {ws : va_W} {a : Nat} {A : Nat → Prop} {H0 : Heap}
/-- a field's store, final or not, that also says that the heap's size stays -/
theorem hf_putA (hexec : p.tables.exec = Jvm.exec) (hb : c.code = cc) {own : String} {r : vw_C} {ci index : Nat} {Ts : List Cond} (hts : ∀ w ∈ Ts, w.before args s = true) (hin : ∀ w ∈ u_ws r.1 r.2.1 r.2.2, w ∈ Ts) (ty0 : Nat → FieldType) (hty : ∀ k, k < r.2.2 → parseFieldDescriptor (r.2.1 k).2.2.1 = some (ty0 k)) (hnm : ∀ a, a < r.2.2 → ∀ b, b < r.2.2 → a ≠ b → (r.2.1 a).2.1 ≠ (r.2.1 b).2.1) (hown : s.vm.findClass own = some m.cls) (hK : va_K D cl tys s) (hP : va_P D cl ws H) (hD : va_D A ws) (hS0 : va_S A H0 H locs) (q0 : Nat) {fs : List Value} (he : ws[q0]? = some (a, .inr (ci, fs))) (hc : cl[ci]? = some r) (k : Nat) (hk : k < r.2.2)
    (hlink : (Cond.fieldLink own index (r.2.1 k).1 (r.2.1 k).2.1 (r.2.1 k).2.2.1).before args s = true)
    (hfin : (r.2.1 k).2.2.2 = false ∨ ((r.2.1 k).2.2.2 = true ∧ meth.name = "<init>" ∧ (r.2.1 k).1 = own)) {v : Value} (hn : narrow (ty0 k) v = v) (hfit : fits (ty0 k) v = true) (hl : k < fs.length)
    (hdg : decode cc pc = .ok (.putfield index, 3)) (kk : ∀ (H1 : Heap) (locs1 : List Loc), H1.size = H.size → va_P D cl (ws.set q0 (a, .inr (ci, fs.set k v))) H1 → va_S A H0 H1 locs1 → W p l e R s m args below meth c H1 locs1 cells slots Q (F0 m (pc + 3) ls rest)) : W p l e R s m args below meth c H locs cells slots Q (F0 m pc ls (v :: .ref a :: rest)) := by
  have hap := va_apart (own := own) hts hin ty0 hty hnm hK (T := r.2.1) (N := r.2.2) (C := r.1) hc
  obtain ⟨r', h1, cell, q1, q2, q3, q4⟩ := hP q0 _ he
  have hr : r' = r := Option.some.inj (h1.symm.trans hc)
  subst hr
  obtain ⟨hS, hfc, kC, hkC, hkind⟩ := hK.1 ci _ hc
  obtain ⟨cf, kf, fi, f, hi, hsl⟩ := hS k hk
  have hlay := hts _ (hin _ (u_in_lay hk))
  unfold u_lay at hlay
  have hst := (u_facts hfc hkC (u_lays hts hin hk) hi).1
  have hfinal : ∀ H' : Heap, H'[a]? = some (cell.setSlot (D.2 ci k) v) → H'.size = H.size → (∀ q, q ≠ a → H'[q]? = H[q]?) → ∀ j : Nat, W p l e R s m args below meth c H' (locs ++ [⟨a, j⟩]) cells slots Q (F0 m (pc + 3) ls rest) := by
    intro H' e1 e2 e3 j
    exact kk H' _ e2 (hP.set hD he ⟨_, hc, t_OB.to (V := updV (vp_V fs) k v) ⟨_, e1, q2, q3, t_set q4 hap hk v⟩ (fun j _ => vp_updV_set hl v j)⟩ e3) (hS0.put e2 e3 (hD.2 q0 _ he))
  rcases hfin with hfin | ⟨hfin, hin2, hdecl⟩
  · rw [if_neg (by rw [hfin]; decide)] at hlay
    have h6 := u_store hfc hkC hkind hlay hi (hty k hk) hn hfit
    refine W.putK hexec hb (f := f) ⟨hown, hlink, ⟨_, _, _, hi⟩, hst⟩ (by rw [q2]; exact h6) q1 q3 (by rw [hsl]; exact k2_hasslot (q4 k hk)) rfl rfl hdg fun H' e1 e2 e3 => ?_
    rw [hsl] at e1
    exact hfinal H' e1 e2 e3 _
  · rw [if_pos hfin] at hlay
    have hcf : m.cls = cf := by
      obtain ⟨_, _, c', _, _, _, -, -, hf', -, -, -, hown2, -⟩ := Cond.laysFinal_spec hlay
      have e1 : c' = cf := by have := hi.symm.trans hf'; simp at this; exact this.1.symm
      rw [hdecl] at hown2
      rw [← e1]; exact Option.some.inj (hown.symm.trans hown2)
    have h6 := u_fits hfc hkC hkind (Or.inr hlay) hi (hty k hk) hn hfit
    refine W.putFinK hexec hb hown hlink hi hst hcf hin2 (by rw [q2]; exact h6) q1 q3 (by rw [hsl]; exact k2_hasslot (q4 k hk)) rfl rfl hdg fun H' e1 e2 e3 => ?_
    rw [hsl] at e1
    exact hfinal H' e1 e2 e3 _
end HP
section HG
variable {X : hf_X} {Y : hf_Y} {d k n pc : Nat} {l : List (Option Value)} {st : List Value} {Q : Option Value → hf_M → Prop}
variable {t : Nat} {T : hf_T} {I : hf_I} {L : hf_L} {P : hf_P}
theorem hf_get {a c j ix z : Nat} (hdg : decode Y.2.1 pc = .ok (.getfield ix, 3)) (hT : T a = (c, z)) (ha : 100 ≤ a ∧ a < 100 + t) (hc : c < 13) (hj : j < hf_N c) (hw0 : hf_fl Y.1.cls ix c j ∈ hf_tb) {v : Value} (hv : ∀ (B : Nat) (ad : Nat → Nat), hf_fv B ad (hf_ty c j) (I a j) (L a j) (P a j) = hf_v B ad v)
    (h : hf_G X Y d k n (pc + 3) l (v :: st) (t, T, I, L, P) Q) : hf_G X Y d k n pc l (.ref a :: st) (t, T, I, L, P) Q := by
  intro B ad D dA p la e s m args below meth c0 H locs cells slots mc ms ls hc0 hk hn hH hS hl
  obtain ⟨hx, hb, hr, hml, hown, hts, hlk, hnm, hw⟩ := id hc0
  obtain ⟨o1, o2⟩ := hf_cl_ok c hc
  have he := hf_ws_at (B := B) (ad := ad) (dA := dA) (M := (t, T, I, L, P)) ha.1 ha.2
  rw [hf_cm_obj hT (by omega)] at he
  exact va_get hx hb hts (hf_cl_in c hc) hown (hf_K hw) hH.2 (a - 100) he o1 j (by rw [← o2]; exact hj) (hts _ hw0) (fun _ q => q) (by rw [hf_fs_at hj, hv B ad]) hdg (h B ad D dA p la e s m args below meth c0 H locs cells slots mc ms ls hc0 hk hn hH hS hl)
/-- a field of ints, longs, references -/
theorem hf_geti {a c j ix z : Nat} (hdg : decode Y.2.1 pc = .ok (.getfield ix, 3)) (hT : T a = (c, z)) (ha : 100 ≤ a ∧ a < 100 + t) (hc : c < 13) (hj : j < hf_N c) (hw0 : hf_fl Y.1.cls ix c j ∈ hf_tb) (hty : hf_ty c j = .int ∨ hf_ty c j = .boolean)
    (h : hf_G X Y d k n (pc + 3) l (.int (I a j) :: st) (t, T, I, L, P) Q) : hf_G X Y d k n pc l (.ref a :: st) (t, T, I, L, P) Q :=
  hf_get (v := .int (I a j)) hdg hT ha hc hj hw0 (fun B ad => by rcases hty with q | q <;> rw [q] <;> rfl) h
theorem hf_getl {a c j ix z : Nat} (hdg : decode Y.2.1 pc = .ok (.getfield ix, 3)) (hT : T a = (c, z)) (ha : 100 ≤ a ∧ a < 100 + t) (hc : c < 13) (hj : j < hf_N c) (hw0 : hf_fl Y.1.cls ix c j ∈ hf_tb) (hty : hf_ty c j = .long)
    (h : hf_G X Y d k n (pc + 3) l (.long (L a j) :: st) (t, T, I, L, P) Q) : hf_G X Y d k n pc l (.ref a :: st) (t, T, I, L, P) Q :=
  hf_get (v := .long (L a j)) hdg hT ha hc hj hw0 (fun B ad => by rw [hty]; rfl) h
def hf_isref (ty : FieldType) : Bool := match ty with
  | .object _ => true
  | .array _ => true
  | _ => false
theorem hf_fv_ref {B : Nat} {ad : Nat → Nat} {ty : FieldType} {i : Int32} {l : Int64} {p : Option Nat} (h : hf_isref ty = true) : hf_fv B ad ty i l p = va_rf (p.map (hf_ad B ad)) := by
  cases ty <;> first | rfl | cases h
theorem hf_getr {a c j ix z b : Nat} (hdg : decode Y.2.1 pc = .ok (.getfield ix, 3)) (hT : T a = (c, z)) (ha : 100 ≤ a ∧ a < 100 + t) (hc : c < 13) (hj : j < hf_N c) (hw0 : hf_fl Y.1.cls ix c j ∈ hf_tb) (hty : hf_isref (hf_ty c j) = true) (hP : P a j = some b)
    (h : hf_G X Y d k n (pc + 3) l (.ref b :: st) (t, T, I, L, P) Q) : hf_G X Y d k n pc l (.ref a :: st) (t, T, I, L, P) Q :=
  hf_get (v := .ref b) hdg hT ha hc hj hw0 (fun B ad => by rw [hf_fv_ref hty, hP]; rfl) h
theorem hf_put {a c j ix z : Nat} {I' : hf_I} {L' : hf_L} {P' : hf_P} (hdg : decode Y.2.1 pc = .ok (.putfield ix, 3)) (hT : T a = (c, z)) (ha : 100 ≤ a ∧ a < 100 + t) (hc : c < 13) (hj : j < hf_N c) (hw0 : hf_fl Y.1.cls ix c j ∈ hf_tb) {v : Value}
    (hfin : ((hf_cl c).2.1 j).2.2.2 = false ∨ (((hf_cl c).2.1 j).2.2.2 = true ∧ Y.1.name = "<init>" ∧ ((hf_cl c).2.1 j).1 = Y.1.cls))
    (hn0 : ∀ (B : Nat) (ad : Nat → Nat), narrow (hf_ty c j) (hf_v B ad v) = hf_v B ad v ∧ fits (hf_ty c j) (hf_v B ad v) = true)
    (ho : ∀ b, b ≠ a → I' b = I b ∧ L' b = L b ∧ P' b = P b) (hq : ∀ q, q ≠ j → I' a q = I a q ∧ L' a q = L a q ∧ P' a q = P a q)
    (hv : ∀ (B : Nat) (ad : Nat → Nat), hf_fv B ad (hf_ty c j) (I' a j) (L' a j) (P' a j) = hf_v B ad v)
    (h : hf_G X Y d k n (pc + 3) l st (t, T, I', L', P') Q) : hf_G X Y d k n pc l (v :: .ref a :: st) (t, T, I, L, P) Q := by
  intro B ad D dA p la e s m args below meth c0 H locs cells slots mc ms ls hc0 hk hn hH hS hl
  obtain ⟨hx, hb, hr, hml, hown, hts, hlk, hnm, hw⟩ := id hc0
  obtain ⟨o1, o2⟩ := hf_cl_ok c hc
  have he := hf_ws_at (B := B) (ad := ad) (dA := dA) (M := (t, T, I, L, P)) ha.1 ha.2
  rw [hf_cm_obj hT (by omega)] at he
  have hend : ∀ (H1 : Heap) (locs1 : List Loc), H1.size = H.size → va_P D vwCl ((hf_ws B ad dA (t, T, I, L, P)).set (a - 100) (hf_ad B ad a, .inr (c, (hf_fs B ad c (I a) (L a) (P a)).set j (hf_v B ad v)))) H1 → va_S (hf_A B) s.heap H1 locs1 → W p la e (hf_R d mc ms) s m args below meth c0 H1 locs1 cells slots (MQ below (hf_Qc B ad D dA Q) args s mc ms (hf_A B)) (F0 m (pc + 3) ls (st.map (hf_v B ad))) := by
    intro H1 locs1 hz hP1 hS1
    refine h B ad D dA p la e s m args below meth c0 H1 locs1 cells slots mc ms ls hc0 hk hn ⟨hz.trans hH.1, ?_⟩ hS1 hl
    have hset := hf_ws_set (B := B) (ad := ad) (dA := dA) (M := (t, T, I, L, P)) (M' := (t, T, I', L', P')) (a := a) (x := .inr (c, (hf_fs B ad c (I a) (L a) (P a)).set j (hf_v B ad v))) ha.1 ha.2 rfl (fun b hb => by
      obtain ⟨q1, q2, q3⟩ := ho b hb
      show hf_c B ad dA (T b) (I' b) (L' b) (P' b) = hf_c B ad dA (T b) (I b) (L b) (P b)
      rw [q1, q2, q3]) (by rw [hf_cm_obj (M := (t, T, I', L', P')) hT (by omega), hf_fs_set hj hq (hv B ad)])
    rw [← hset]
    exact hP1
  refine hf_putA (r := hf_cl c) hx hb hts (hf_cl_in c hc) (hf_ty c) (hf_cl_ty c hc) (hf_cl_nm c hc) hown (hf_K hw) hH.2 hf_D hS (a - 100) he o1 j (by rw [← o2]; exact hj) (hts _ hw0) ?_ (hn0 B ad).1 (hn0 B ad).2 (by rw [hf_fs_len]; exact hj) hdg (fun H1 locs1 z q1 q2 => hend H1 locs1 z q1 q2)
  rcases hfin with hfin | ⟨hfin, hi, hdc⟩
  · exact Or.inl hfin
  · exact Or.inr ⟨hfin, hnm hi, hdc⟩
theorem hf_puti {x : Int32} {a c j ix z : Nat} (hdg : decode Y.2.1 pc = .ok (.putfield ix, 3)) (hT : T a = (c, z)) (ha : 100 ≤ a ∧ a < 100 + t) (hc : c < 13) (hj : j < hf_N c) (hw0 : hf_fl Y.1.cls ix c j ∈ hf_tb) (hfin : ((hf_cl c).2.1 j).2.2.2 = false) (hty : hf_ty c j = .int)
    (h : hf_G X Y d k n (pc + 3) l st (t, T, hf_up I a j x, L, P) Q) : hf_G X Y d k n pc l (.int x :: .ref a :: st) (t, T, I, L, P) Q := by
  refine hf_put (v := .int x) hdg hT ha hc hj hw0 (Or.inl hfin) (fun B ad => by rw [hty]; exact ⟨rfl, rfl⟩) (fun b hb => ⟨by simp [hf_up, hb], rfl, rfl⟩) (fun q hq => ⟨by simp [hf_up, upd, hq], rfl, rfl⟩) (fun B ad => ?_) h
  rw [hty]
  simp [hf_up, upd, hf_fv, hf_v]
theorem hf_putz {x : Int32} {a c j ix z : Nat} (hdg : decode Y.2.1 pc = .ok (.putfield ix, 3)) (hT : T a = (c, z)) (ha : 100 ≤ a ∧ a < 100 + t) (hc : c < 13) (hj : j < hf_N c) (hw0 : hf_fl Y.1.cls ix c j ∈ hf_tb) (hfin : ((hf_cl c).2.1 j).2.2.2 = false) (hty : hf_ty c j = .boolean) (hx01 : x = 0 ∨ x = 1)
    (h : hf_G X Y d k n (pc + 3) l st (t, T, hf_up I a j x, L, P) Q) : hf_G X Y d k n pc l (.int x :: .ref a :: st) (t, T, I, L, P) Q := by
  refine hf_put (v := .int x) hdg hT ha hc hj hw0 (Or.inl hfin) (fun B ad => by rw [hty]; rcases hx01 with rfl | rfl <;> exact ⟨rfl, rfl⟩) (fun b hb => ⟨by simp [hf_up, hb], rfl, rfl⟩) (fun q hq => ⟨by simp [hf_up, upd, hq], rfl, rfl⟩) (fun B ad => ?_) h
  rw [hty]
  simp [hf_up, upd, hf_fv, hf_v]
theorem hf_putl {x : Int64} {a c j ix z : Nat} (hdg : decode Y.2.1 pc = .ok (.putfield ix, 3)) (hT : T a = (c, z)) (ha : 100 ≤ a ∧ a < 100 + t) (hc : c < 13) (hj : j < hf_N c) (hw0 : hf_fl Y.1.cls ix c j ∈ hf_tb) (hfin : ((hf_cl c).2.1 j).2.2.2 = false) (hty : hf_ty c j = .long)
    (h : hf_G X Y d k n (pc + 3) l st (t, T, I, hf_upL L a j x, P) Q) : hf_G X Y d k n pc l (.long x :: .ref a :: st) (t, T, I, L, P) Q := by
  refine hf_put (v := .long x) hdg hT ha hc hj hw0 (Or.inl hfin) (fun B ad => by rw [hty]; exact ⟨rfl, rfl⟩) (fun b hb => ⟨rfl, by simp [hf_upL, hb], rfl⟩) (fun q hq => ⟨rfl, by simp [hf_upL, vp_updL, hq], rfl⟩) (fun B ad => ?_) h
  rw [hty]
  simp [hf_upL, vp_updL, hf_fv, hf_v]
theorem hf_nar_ref {ty : FieldType} (h : hf_isref ty = true) (x : Nat) : narrow ty (.ref x) = .ref x ∧ fits ty (.ref x) = true := by
  cases ty <;> first | exact ⟨rfl, rfl⟩ | cases h
theorem hf_putr {x : Nat} {a c j ix z : Nat} (hdg : decode Y.2.1 pc = .ok (.putfield ix, 3)) (hT : T a = (c, z)) (ha : 100 ≤ a ∧ a < 100 + t) (hc : c < 13) (hj : j < hf_N c) (hw0 : hf_fl Y.1.cls ix c j ∈ hf_tb) (hfin : ((hf_cl c).2.1 j).2.2.2 = false ∨ (((hf_cl c).2.1 j).2.2.2 = true ∧ Y.1.name = "<init>" ∧ ((hf_cl c).2.1 j).1 = Y.1.cls)) (hty : hf_isref (hf_ty c j) = true)
    (h : hf_G X Y d k n (pc + 3) l st (t, T, I, L, hf_upP P a j (some x)) Q) : hf_G X Y d k n pc l (.ref x :: .ref a :: st) (t, T, I, L, P) Q := by
  refine hf_put (v := .ref x) hdg hT ha hc hj hw0 hfin (fun B ad => hf_nar_ref hty _) (fun b hb => ⟨rfl, rfl, by simp [hf_upP, hb]⟩) (fun q hq => ⟨rfl, rfl, by simp [hf_upP, va_up, hq]⟩) (fun B ad => ?_) h
  rw [hf_fv_ref hty]
  simp [hf_upP, va_up, va_rf, hf_v]
end HG
