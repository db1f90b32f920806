/-! THE DESK'S remove AND insert -/
theorem sub1_m1 (x : Int32) : x - nI 1 = x + -1 := by rw [Int32.sub_eq_add_neg]; rfl
theorem upd_self (f : Nat → Int32) (k : Nat) : upd f k (f k) = f := by
  funext j
  rw [upd_at]
  by_cases e : j = k
  · rw [if_pos e, e]
  · rw [if_neg e]
theorem uI_self (h : pm_H) (a k : Nat) : uI h a k (rI h a k) = h := by rw [uI_eq, upd_self, uA_self]
def focR (f : Int32) (g s : Nat) : Int32 := if nI g < f ∨ nI (s - 1) ≤ f then f - nI 1 else f
theorem t_Row_remove {r a b n s g : Nat} {h : pm_H} (w : RW h r a b n s) (x : Int32) (hg : lfind (rI h b) x s 0 = nI g) (hgs : g < s) (Q : Option Value × pm_H → Prop) : pGo 66 0 [some (.ref r), some (.int x), none] [] h Q = Q (none, uI (uA (uI h a 1 (nI (s - 1))) b (lrem (rI h b) g s)) r 1 (focR (rI h r 1) g s)) := by
  rw [s_Row_remove w x hg hgs, focR]
  have d1 : ¬ r = a := w.2.2.2.1
  have d2 : ¬ r = b := w.2.2.2.2
  by_cases c1 : nI g < rI h r 1 ∨ nI (s - 1) ≤ rI h r 1
  · rw [if_pos c1, if_pos c1]
  · rw [if_neg c1, if_neg c1]
    have e : uI (uA (uI h a 1 (nI (s - 1))) b (lrem (rI h b) g s)) r 1 (rI h r 1) = uA (uI h a 1 (nI (s - 1))) b (lrem (rI h b) g s) := by
      have : rI (uA (uI h a 1 (nI (s - 1))) b (lrem (rI h b) g s)) r 1 = rI h r 1 := by rw [rI_uA, if_neg d2, rI_uI, if_neg d1]
      have z := uI_self (uA (uI h a 1 (nI (s - 1))) b (lrem (rI h b) g s)) r 1
      rw [this] at z
      exact z
    rw [e]
theorem focR_eq {f g s : Nat} (hf : f < s) (hg : g < s) (hs : s ≤ 60) : focR (nI f) g s = (if nI g < nI f ∨ nI f = nI (s - 1) then nI f + -1 else nI f) := by
  rw [focR, sub1_m1]
  have e : (nI (s - 1) ≤ nI f) = (nI f = nI (s - 1)) := by
    rw [ar_le (by omega) (by omega), ar_eq (by omega) (by omega)]
    exact propext ⟨fun h => by omega, fun h => by omega⟩
  simp only [e]
theorem rem_o (v : Nat → Int32) {i p c e : Nat} (hp : p < c) (hc : c ≤ 60) (h : e < 35 + 65 * i + 3 ∨ 35 + 65 * i + 65 ≤ e) : remV v i p c e = v e := by
  simp only [remV, upd_at, va_cpy]
  rw [if_neg (by omega), if_neg (by omega), if_neg (by omega), if_neg (by omega)]
theorem rem_3 (v : Nat → Int32) (i p c : Nat) : remV v i p c (35 + 65 * i + 3) = nI (c - 1) := by
  rw [remV, upd_at, if_neg (by omega), upd_at, if_pos rfl]
theorem rem_4 (v : Nat → Int32) (i p c : Nat) : remV v i p c (35 + 65 * i + 4) = (if nI p < v (35 + 65 * i + 4) ∨ v (35 + 65 * i + 4) = nI (c - 1) then v (35 + 65 * i + 4) + -1 else v (35 + 65 * i + 4)) := by
  rw [remV, upd_at, if_pos rfl]
theorem rem_k (v : Nat → Int32) {i p c : Nat} (hp : p < c) (k : Nat) : remV v i p c (35 + 65 * i + 5 + k) = if k = c - 1 then nI 0 else if p ≤ k ∧ k < c - 1 then v (35 + 65 * i + 5 + (k + 1)) else v (35 + 65 * i + 5 + k) := by
  simp only [remV, upd_at, va_cpy]
  rw [if_neg (by omega), if_neg (by omega)]
  by_cases e : k = c - 1
  · rw [if_pos (by omega), if_pos e]
  · rw [if_neg (by omega), if_neg e]
    by_cases e2 : p ≤ k ∧ k < c - 1
    · rw [if_pos (by omega), if_pos e2]; congr 1; omega
    · rw [if_neg (by omega), if_neg e2]
theorem ins_o (v : Nat → Int32) {i p c e : Nat} (w : Int32) (hp : p ≤ c) (hc : c < 60) (h : e < 35 + 65 * i + 3 ∨ 35 + 65 * i + 65 ≤ e) : insV v i p c w e = v e := by
  simp only [insV, upd_at, va_cpy]
  rw [if_neg (by omega), if_neg (by omega), if_neg (by omega), if_neg (by omega)]
theorem ins_3 (v : Nat → Int32) (i p c : Nat) (w : Int32) : insV v i p c w (35 + 65 * i + 3) = nI (c + 1) := by
  rw [insV, upd_at, if_neg (by omega), upd_at, if_pos rfl, ar_add]
theorem ins_4 (v : Nat → Int32) (i p c : Nat) (w : Int32) : insV v i p c w (35 + 65 * i + 4) = nI p := by
  rw [insV, upd_at, if_pos rfl]
theorem ins_k (v : Nat → Int32) {i p c : Nat} (w : Int32) (hp : p ≤ c) (k : Nat) : insV v i p c w (35 + 65 * i + 5 + k) = if k = p then w else if p < k ∧ k ≤ c then v (35 + 65 * i + 5 + (k - 1)) else v (35 + 65 * i + 5 + k) := by
  simp only [insV, upd_at, va_cpy]
  rw [if_neg (by omega), if_neg (by omega)]
  by_cases e : k = p
  · rw [if_pos (by omega), if_pos e]
  · rw [if_neg (by omega), if_neg e]
    by_cases e2 : p < k ∧ k ≤ c
    · rw [if_pos (by omega), if_pos e2]; congr 1; omega
    · rw [if_neg (by omega), if_neg e2]
theorem lrem_at (f : Nat → Int32) (p s k : Nat) : lrem f p s k = if p ≤ k ∧ k < s - 1 then f (k + 1) else f k := by
  simp only [lrem, va_cpy]
  by_cases e : p ≤ k ∧ k < s - 1
  · rw [if_pos (by omega), if_pos e]; congr 1; omega
  · rw [if_neg (by omega), if_neg e]
theorem lins_at (f : Nat → Int32) {p s : Nat} (x : Int32) (hp : p ≤ s) (k : Nat) : lins f p s x k = if k = p then x else if p < k ∧ k ≤ s then f (k - 1) else f k := by
  simp only [lins, upd_at, va_cpy]
  by_cases e : k = p
  · rw [if_pos e, if_pos e]
  · rw [if_neg e, if_neg e]
    by_cases e2 : p < k ∧ k ≤ s
    · rw [if_pos (by omega), if_pos e2]; congr 1; omega
    · rw [if_neg (by omega), if_neg e2]
section DESK2
variable {h : pm_H} {d : Nat} {C H P : Nat → Nat} {n cu s1 s2 : Nat} {v : Nat → Int32}
theorem s_Desk_remove (t : DS h d C n cu s1 s2) {w i p : Nat} (hw : w < 60) (hom : rI h (d + 52) w = nI i) (hi : i < 9) (fnd : lfind (rI h (d + 5 + 4 * i)) (nI w) (C i) 0 = nI p) (hp : p < C i) (Q : Option Value × pm_H → Prop) : pGo 19 0 [some (.ref d), some (.int (nI w))] [] h Q = Q (none, uI (uI (uA (uI h (d + 4 + 4 * i) 1 (nI (C i - 1))) (d + 5 + 4 * i) (lrem (rI h (d + 5 + 4 * i)) p (C i))) (d + 3 + 4 * i) 1 (focR (rI h (d + 3 + 4 * i) 1) p (C i))) (d + 52) w (-1)) := by
  obtain ⟨⟨k0, k1, k2, k3, k4, k5, k6, k7, k8, k9, k10, k11, k12, k13⟩, c, sc⟩ := id t
  obtain ⟨j1, j2, j3, j4, j5, j6⟩ := k7 i hi
  simp (disch := omega) only [k19_0, k19_1, k19_4, k19_5, k19_8, k19_9, k19_10, k19_11, k19_12, k19_15, k19_16, k19_19, k19_20, k19_21, k19_22, t_Row_remove (t.row hi) (nI w) fnd hp, hom, if_true, if_false, ite_true, ite_false, not_true_eq_false, not_false_eq_true, true_or, or_true, false_or, or_false, and_self, ok_n0, ok_ni, ok_nr, ok_nl, va_rf_some, va_rf_none, true_and, and_true, List.length_nil, List.length_cons, Option.toList_some, Option.toList_none, List.cons_append, List.nil_append, rK_uA, rK_uI, rK_uJ, rK_uP, rP_uA, rP_uI, rP_uJ, rJ_uA, rJ_uI, rJ_uP, rI_uJ, rI_uP, rz_uA, rz_uI, rz_uJ, rz_uP, rs_uA, rs_uI, rs_uJ, rs_uP, Nat.reduceAdd, Nat.reduceMul, Nat.reduceSub, Nat.reduceLeDiff, Nat.reduceLT, Nat.reduceEqDiff, Nat.add_zero, Nat.zero_add, Nat.zero_le, k0, k1, k2, k5 i hi, k12, k13, j1, ar_oki, ar_okr, ar_okw, ar_cl, hi, hw]
theorem s_Desk_insert (t : DS h d C n cu s1 s2) {w i p : Nat} (hw : w < 60) (hi : i < 9) (hf : (rI h (d + 3 + 4 * i) 1 = -1 ∧ p = 0) ∨ rI h (d + 3 + 4 * i) 1 = nI p) (hp : p ≤ C i) (hc : C i < 60) (Q : Option Value × pm_H → Prop) : pGo 18 0 [some (.ref d), some (.int (nI w)), some (.int (nI i))] [] h Q = Q (none, uI (uI (uA (uI h (d + 3 + 4 * i) 1 (nI p)) (d + 5 + 4 * i) (lins (rI h (d + 5 + 4 * i)) p (C i) (nI w))) (d + 4 + 4 * i) 1 (nI (C i + 1))) (d + 52) w (nI i)) := by
  obtain ⟨⟨k0, k1, k2, k3, k4, k5, k6, k7, k8, k9, k10, k11, k12, k13⟩, c, sc⟩ := id t
  obtain ⟨j1, j2, j3, j4, j5, j6⟩ := k7 i hi
  simp (disch := omega) only [k18_0, k18_1, k18_4, k18_5, k18_6, k18_7, k18_10, k18_11, k18_14, k18_15, k18_16, k18_17, s_Row_insert (t.row hi) hf hp hc, if_true, if_false, ite_true, ite_false, not_true_eq_false, not_false_eq_true, true_or, or_true, false_or, or_false, and_self, ok_n0, ok_ni, ok_nr, ok_nl, va_rf_some, va_rf_none, true_and, and_true, List.length_nil, List.length_cons, Option.toList_some, Option.toList_none, List.cons_append, List.nil_append, rK_uA, rK_uI, rK_uJ, rK_uP, rP_uA, rP_uI, rP_uJ, rJ_uA, rJ_uI, rJ_uP, rI_uJ, rI_uP, rz_uA, rz_uI, rz_uJ, rz_uP, rs_uA, rs_uI, rs_uJ, rs_uP, Nat.reduceAdd, Nat.reduceMul, Nat.reduceSub, Nat.reduceLeDiff, Nat.reduceLT, Nat.reduceEqDiff, Nat.add_zero, Nat.zero_add, Nat.zero_le, k0, k1, k2, k5 i hi, k12, k13, j1, ar_oki, ar_okr, ar_okw, ar_cl, hi, hw]
theorem DV.rem (t : DV h d v n C H) (ds : DS h d C n cu s1 s2) (hn : n ≤ 4) {w i p : Nat} (hw : w < 60) (hi : i < 9) (hH : H w = i) (ht : v (620 + 6 * w) = nI 1) (fnd : lfind (rI h (d + 5 + 4 * i)) (nI w) (C i) 0 = nI p) (hp : p < C i) (c60 : ∀ k, k < 9 → C k ≤ 60) (fo : ∃ f, f < C i ∧ v (35 + 65 * i + 4) = nI f) : ∃ h', (∀ Q, pGo 19 0 [some (.ref d), some (.int (nI w))] [] h Q = Q (none, h')) ∧ DV h' d (upd (remV v i p (C i)) (620 + 6 * w) (nI 0)) n (fun k => if k = i then C i - 1 else C k) H ∧ FRD d (d + 53) h h' := by
  have hom := t.hom w hw
  rw [if_pos ht, hH] at hom
  have hc := c60 i hi
  refine ⟨_, fun Q => s_Desk_remove ds hw hom hi fnd hp Q, DV.home (H' := H) ?_ hw hn (-1) (nI 0) (by rw [if_neg n0_1]) (fun _ _ _ => rfl) (fun k hk => by have := c60 k hk; (try simp only); split <;> omega), ?_⟩
  · refine DV.row t hi hn (((FRD.uI _ (by omega) (by omega) _ _).tr (FRD.uA _ (by omega) (by omega) _)).tr (FRD.uI _ (by omega) (by omega) _ _)) (fun e he => rem_o v hp hc (by omega)) (fun c hcc => ?_) ?_ ?_ (fun k hk => ?_) (fun k hk hne => by simp only [hne, if_false]) c60
    · rw [rI_uI, if_neg (by omega), rI_uA, if_neg (by omega), rI_uI, if_neg (by omega), rem_o v hp hc (by omega)]; exact t.lay i c hi hcc
    · rw [rI_uI, if_neg (by omega), rI_uA, if_neg (by omega), rI_uI, if_pos rfl, pk_us, rem_3]
    · rw [rI_uI, if_pos rfl, pk_us, rem_4, t.foc i hi]
      obtain ⟨f, f1, f2⟩ := fo
      rw [f2]; exact focR_eq f1 hp hc
    · simp only [if_true] at hk
      rw [rI_uI, if_neg (by omega), rI_uA, if_pos rfl, lrem_at, rem_k v hp, if_neg (show ¬ k = C i - 1 by omega)]
      by_cases e : p ≤ k ∧ k < C i - 1
      · rw [if_pos e, if_pos e, t.ord i _ hi (by omega)]
      · rw [if_neg e, if_neg e, t.ord i _ hi (by omega)]
  · exact (((FRD.uI _ (by omega) (by omega) _ _).tr (FRD.uA _ (by omega) (by omega) _)).tr (FRD.uI _ (by omega) (by omega) _ _)).tr (FRD.uI _ (by omega) (by omega) _ _)
theorem DV.ins (t : DV h d v n C H) (ds : DS h d C n cu s1 s2) (hn : n ≤ 4) {w i p : Nat} (hw : w < 60) (hi : i < 9) (hf : (v (35 + 65 * i + 4) = -1 ∧ p = 0) ∨ v (35 + 65 * i + 4) = nI p) (hp : p ≤ C i) (hc : C i < 60) (c60 : ∀ k, k < 9 → C k ≤ 60) : ∃ h', (∀ Q, pGo 18 0 [some (.ref d), some (.int (nI w)), some (.int (nI i))] [] h Q = Q (none, h')) ∧ DV h' d (upd (insV v i p (C i) (nI w)) (620 + 6 * w) (nI 1)) n (fun k => if k = i then C i + 1 else C k) (fun x => if x = w then i else H x) ∧ FRD d (d + 53) h h' := by
  refine ⟨_, fun Q => s_Desk_insert ds hw hi (by rw [t.foc i hi]; exact hf) hp hc Q, DV.home (H := H) ?_ hw hn (nI i) (nI 1) (by simp) (fun k _ hne => by simp only [hne, if_false]) (fun k hk => by have := c60 k hk; (try simp only); split <;> omega), ?_⟩
  · refine DV.row t hi hn (((FRD.uI _ (by omega) (by omega) _ _).tr (FRD.uA _ (by omega) (by omega) _)).tr (FRD.uI _ (by omega) (by omega) _ _)) (fun e he => ins_o v _ hp hc (by omega)) (fun c hcc => ?_) ?_ ?_ (fun k hk => ?_) (fun k hk hne => by simp only [hne, if_false]) c60
    · rw [rI_uI, if_neg (by omega), rI_uA, if_neg (by omega), rI_uI, if_neg (by omega), ins_o v _ hp hc (by omega)]; exact t.lay i c hi hcc
    · rw [rI_uI, if_pos rfl, pk_us, ins_3]
    · rw [rI_uI, if_neg (by omega), rI_uA, if_neg (by omega), rI_uI, if_pos rfl, pk_us, ins_4]
    · simp only [if_true] at hk
      rw [rI_uI, if_neg (by omega), rI_uA, if_pos rfl, lins_at _ _ hp, ins_k v _ hp]
      by_cases e0 : k = p
      · rw [if_pos e0, if_pos e0]
      · rw [if_neg e0, if_neg e0]
        by_cases e : p < k ∧ k ≤ C i
        · rw [if_pos e, if_pos e, t.ord i _ hi (by omega)]
        · rw [if_neg e, if_neg e, t.ord i _ hi (by omega)]
  · exact (((FRD.uI _ (by omega) (by omega) _ _).tr (FRD.uA _ (by omega) (by omega) _)).tr (FRD.uI _ (by omega) (by omega) _ _)).tr (FRD.uI _ (by omega) (by omega) _ _)
end DESK2
