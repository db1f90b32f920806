/-! A VIEW, both sides at once -/
section VIEW
variable {v : Nat → Int32} {n c : Nat} {p lo r rl : Nat → Nat} {h : pm_H} {d : Nat}
theorem dvs_hid (t : DVS h d v n) (s : SI v n c p lo r rl) {i : Nat} (hl : ¬ lo i < n) (hi : i < 9) : DVS (uA (uI (uA h (d + 39 + 10) (ltop (rI h (d + 39 + 10)) (lo i - n) (9 - n) (rI h (d + 39 + 6) c))) (d + 39 + 9) 1 (nI (9 - n))) (d + 39 + 6) (upd (rI h (d + 39 + 6)) c (nI i))) d (vhV v c (lo i - n) (nI i)) n := by
  obtain ⟨h1, h2, h3⟩ := s.hid_at hi hl
  have cn := s.cn
  have n4 := s.n4
  have eA : ∀ e, e < 26 → ¬ e = 21 + c → vhV v c (lo i - n) (nI i) e = v e := fun e he hc => by
    rw [vhV, upd_at, if_neg hc, topV_o _ _ (by omega)]
  have eH : ∀ k, k < 9 → vhV v c (lo i - n) (nI i) (26 + k) = if k = 0 then v (21 + c) else if k ≤ lo i - n then v (26 + (k - 1)) else v (26 + k) := fun k hk => by
    rw [vhV, upd_at, if_neg (by omega), topV_at]
  refine ⟨t.k, ?_, ?_, ?_, ?_, fun j hj => ?_, fun j cc hj hc => ?_, fun k hk => ?_, fun k hk => ?_⟩
  · rw [rI_uA, if_neg (by omega), rI_uI, if_neg (by omega), rI_uA, if_neg (by omega), eA _ (by omega) (by omega)]; exact t.many
  · rw [rI_uA, if_neg (by omega), rI_uI, if_neg (by omega), rI_uA, if_neg (by omega), eA _ (by omega) (by omega)]; exact t.cur
  · rw [rI_uA, if_neg (by omega), rI_uI, if_neg (by omega), rI_uA, if_neg (by omega)]; exact t.vsz
  · rw [rI_uA, if_neg (by omega), rI_uI, if_pos rfl, pk_us]
  · rw [rI_uA, if_pos rfl, upd_at]
    by_cases e : j = c
    · rw [if_pos e, e, vhV, upd_at, if_pos rfl]
    · rw [if_neg e, eA _ (by omega) (by omega)]; exact t.ws j hj
  · rw [rI_uA, if_neg (by omega), rI_uI, if_neg (by omega), rI_uA, if_neg (by omega), eA _ (by omega) (by omega)]; exact t.bx j cc hj hc
  · rw [rI_uA, if_neg (by omega), rI_uI, if_neg (by omega), rI_uA, if_neg (by omega), eA _ (by omega) (by omega)]; exact t.vis k hk
  · rw [rI_uA, if_neg (by omega), rI_uI, if_neg (by omega), rI_uA, if_pos rfl, ltop_at _ h1 _ hk, eH k (by omega), t.ws c cn]
    by_cases k0 : k = 0
    · rw [if_pos k0, if_pos k0]
    · rw [if_neg k0, if_neg k0, t.hid k hk, t.hid (k - 1) (by omega)]
theorem dvs_vn (t : DVS h d v n) (s : SI v n c p lo r rl) {j : Nat} (hj : j < n) (hc : ¬ j = c) : DVS (uI (uI (uA h (d + 39 + 8) (ltop (rI h (d + 39 + 8)) (rl j - 1) (n - 1) (nI c))) (d + 39 + 7) 1 (nI (n - 1))) (d + 39) 3 (nI j)) d (vnV v c j (rl j - 1)) n := by
  obtain ⟨h0, h1, h2, h3⟩ := s.vis_at hj hc
  have cn := s.cn
  have n4 := s.n4
  have eA : ∀ e, ¬ e = 1 → (e < 2 ∨ 5 ≤ e) → vnV v c j (rl j - 1) e = v e := fun e h1 h2 => by
    rw [vnV, upd_at, if_neg h1, topV_o _ _ (by omega)]
  have eH : ∀ k, k < 3 → vnV v c j (rl j - 1) (2 + k) = if k = 0 then nI c else if k ≤ rl j - 1 then v (2 + (k - 1)) else v (2 + k) := fun k hk => by
    rw [vnV, upd_at, if_neg (by omega), topV_at]
  refine ⟨t.k, ?_, ?_, ?_, ?_, fun j hj => ?_, fun j cc hj hc => ?_, fun k hk => ?_, fun k hk => ?_⟩
  · rw [rI_uI, if_pos rfl, upd_at, if_neg (by omega), rI_uI, if_neg (by omega), rI_uA, if_neg (by omega), eA _ (by omega) (by omega)]; exact t.many
  · rw [rI_uI, if_pos rfl, upd_at, if_pos rfl, vnV, upd_at, if_pos rfl]
  · rw [rI_uI, if_neg (by omega), rI_uI, if_pos rfl, pk_us]
  · rw [rI_uI, if_neg (by omega), rI_uI, if_neg (by omega), rI_uA, if_neg (by omega)]; exact t.hsz
  · rw [rI_uI, if_neg (by omega), rI_uI, if_neg (by omega), rI_uA, if_neg (by omega), eA _ (by omega) (by omega)]; exact t.ws j hj
  · rw [rI_uI, if_neg (by omega), rI_uI, if_neg (by omega), rI_uA, if_neg (by omega), eA _ (by omega) (by omega)]; exact t.bx j cc hj hc
  · rw [rI_uI, if_neg (by omega), rI_uI, if_neg (by omega), rI_uA, if_pos rfl, ltop_at _ h1 _ hk, eH k (by omega)]
    by_cases k0 : k = 0
    · rw [if_pos k0, if_pos k0]
    · rw [if_neg k0, if_neg k0, t.vis k hk, t.vis (k - 1) (by omega)]
  · rw [rI_uI, if_neg (by omega), rI_uI, if_neg (by omega), rI_uA, if_neg (by omega), eA _ (by omega) (by omega)]; exact t.hid k hk
theorem dvs_vg (t : DVS h d v n) (s : SI v n c p lo r rl) {i j : Nat} (hj : j < n) (hc : ¬ j = c) : DVS (uI (uA (uA h (d + 39 + 6) (upd (upd (rI h (d + 39 + 6)) j (rI h (d + 39 + 6) c)) c (nI i))) (d + 39 + 8) (ltop (rI h (d + 39 + 8)) (rl j - 1) (n - 1) (nI j))) (d + 39 + 7) 1 (nI (n - 1))) d (vgV v c j (rl j - 1) (nI i)) n := by
  obtain ⟨h0, h1, h2, h3⟩ := s.vis_at hj hc
  have cn := s.cn
  have n4 := s.n4
  have eA : ∀ e, (e < 2 ∨ 5 ≤ e) → ¬ e = 21 + c → ¬ e = 21 + j → vgV v c j (rl j - 1) (nI i) e = v e := fun e h1 h2 h3 => by
    rw [vgV, topV_o _ _ (by omega), upd_at, if_neg h3, upd_at, if_neg h2]
  have eW : ∀ k, k < n → vgV v c j (rl j - 1) (nI i) (21 + k) = if k = j then v (21 + c) else if k = c then nI i else v (21 + k) := fun k hk => by
    rw [vgV, topV_o _ _ (by omega), upd_at, upd_at]
    by_cases e1 : k = j
    · rw [if_pos (by omega), if_pos e1]
    · rw [if_neg (by omega), if_neg e1]
      by_cases e2 : k = c
      · rw [if_pos (by omega), if_pos e2]
      · rw [if_neg (by omega), if_neg e2]
  have eH : ∀ k, k < 3 → vgV v c j (rl j - 1) (nI i) (2 + k) = if k = 0 then nI j else if k ≤ rl j - 1 then v (2 + (k - 1)) else v (2 + k) := fun k hk => by
    have z : ∀ e, e < 21 → upd (upd v (21 + c) (nI i)) (21 + j) (v (21 + c)) e = v e := fun e he => by
      rw [upd_at, if_neg (by omega), upd_at, if_neg (by omega)]
    rw [vgV, topV_at, z _ (by omega), z _ (by omega)]
  refine ⟨t.k, ?_, ?_, ?_, ?_, fun k hk => ?_, fun j cc hj hc => ?_, fun k hk => ?_, fun k hk => ?_⟩
  · rw [rI_uI, if_neg (by omega), rI_uA, if_neg (by omega), rI_uA, if_neg (by omega), eA _ (by omega) (by omega) (by omega)]; exact t.many
  · rw [rI_uI, if_neg (by omega), rI_uA, if_neg (by omega), rI_uA, if_neg (by omega), eA _ (by omega) (by omega) (by omega)]; exact t.cur
  · rw [rI_uI, if_pos rfl, pk_us]
  · rw [rI_uI, if_neg (by omega), rI_uA, if_neg (by omega), rI_uA, if_neg (by omega)]; exact t.hsz
  · rw [rI_uI, if_neg (by omega), rI_uA, if_neg (by omega), rI_uA, if_pos rfl, eW k hk, upd_at, upd_at]
    by_cases e1 : k = j
    · subst e1; rw [if_neg hc, if_pos rfl, if_pos rfl]; exact t.ws c cn
    · rw [if_neg e1, if_neg e1]
      by_cases e2 : k = c
      · rw [if_pos e2, if_pos e2]
      · rw [if_neg e2, if_neg e2]; exact t.ws k hk
  · rw [rI_uI, if_neg (by omega), rI_uA, if_neg (by omega), rI_uA, if_neg (by omega), eA _ (by omega) (by omega) (by omega)]; exact t.bx j cc hj hc
  · rw [rI_uI, if_neg (by omega), rI_uA, if_pos rfl, ltop_at _ h1 _ hk, eH k (by omega)]
    by_cases k0 : k = 0
    · rw [if_pos k0, if_pos k0]
    · rw [if_neg k0, if_neg k0, t.vis k hk, t.vis (k - 1) (by omega)]
  · rw [rI_uI, if_neg (by omega), rI_uA, if_neg (by omega), rI_uA, if_neg (by omega), eA _ (by omega) (by omega) (by omega)]; exact t.hid k hk
def brm (b : Bool) : Nat := if b = true then 80 else 79
/-- what a view makes of the vector, of the model and of a desk's screens -/
def VWS (v v' : Nat → Int32) (n i : Nat) (b : Bool) : Prop := VW v v' n ∧ (∀ h M s, MV h M s v → ∀ Q, pGo 136 0 [some (.ref M), some (.int (nI i)), some (.int (nb b)), none, none, none, none, none] [] h Q = Q (none, HM h M (rI h (M + 1)) s v')) ∧ ∀ h d, DVS h d v n → ∃ h', (∀ Q, pGo (brm b) 0 [some (.ref (d + 39)), some (.int (nI i)), none] [] h Q = Q (none, h')) ∧ DVS h' d v' n ∧ FRD (d + 39) (d + 50) h h'
theorem brm_f : brm false = 79 := rfl
theorem brm_t : brm true = 80 := rfl
theorem view_all (s : SI v n c p lo r rl) {i : Nat} (hi : i < 9) (b : Bool) : ∃ v' c' p' lo' r' rl', SI v' n c' p' lo' r' rl' ∧ VWS v v' n i b ∧ (lo i = c → v' = v) := by
  have cn := s.cn
  have n4 := s.n4
  by_cases hl : lo i < n
  · by_cases hc : lo i = c
    · refine ⟨v, c, p, lo, r, rl, s, ⟨⟨fun _ _ => rfl, rfl, fun _ _ _ => rfl⟩, fun h M s0 t Q => ?_, fun h d t => ⟨h, fun Q => ?_, t, FRD.rf _ _ _⟩⟩, fun _ => rfl⟩
      · rw [s_views_same t s.v0 n4 s.v1 (by omega) (nI i) (nb b) (by rw [s.scr_y hi hl, hc]), ← HM_of t.2.2.2]
      · cases b with
        | false => exact s_Screens_bring_same (t.sc s) (nI i) (by rw [s.dfnd_y t hi hl, hc]) Q
        | true => exact s_Screens_bringGreedily_same (t.sc s) (nI i) (by rw [s.dfnd_y t hi hl, hc]) Q
    · obtain ⟨h0, h1, h2, h3⟩ := s.vis_at hl hc
      have p3 : rl (lo i) - 1 < 3 := by omega
      cases b with
      | false =>
        obtain ⟨r', rl', s'⟩ := vn_si s hl hc
        refine ⟨_, _, _, _, _, _, s', ⟨⟨fun e he => ?_, ?_, fun e h1 h2 => ?_⟩, fun h M s0 t Q => ?_, fun h d t => ⟨_, fun Q => s_Screens_bring_vis (t.sc s) (nI i) (s.dfnd_y t hi hl) (by omega) hc (s.dvis t hl hc) h1 Q, dvs_vn t s hl hc, ?_⟩⟩, fun e => absurd e hc⟩
        · rw [vnV, upd_at, if_neg (by omega), topV_o _ _ (by omega)]
        · rw [vnV, upd_at, if_neg (by omega), topV_o _ _ (by omega)]
        · rw [vnV, upd_at, if_neg (by omega), topV_o _ _ (by omega)]
        · exact s_views_vis t s.v0 n4 s.v1 (by omega) (nI i) (s.scr_y hi hl) (by omega) hc p3 h2 h3 false Q
        · exact ((FRD.uA _ (by omega) (by omega) _).tr (FRD.uI _ (by omega) (by omega) _ _)).tr (FRD.uI _ (by omega) (by omega) _ _)
      | true =>
        obtain ⟨p', lo', r', rl', s'⟩ := vg_si s hi rfl hl hc
        refine ⟨_, _, _, _, _, _, s', ⟨⟨fun e he => ?_, ?_, fun e h1 h2 => ?_⟩, fun h M s0 t Q => ?_, fun h d t => ⟨_, fun Q => s_Screens_bringGreedily_vis (t.sc s) (nI i) (s.dfnd_y t hi hl) (by omega) hc (s.dvis t hl hc) h1 Q, dvs_vg t s hl hc, ?_⟩⟩, fun e => absurd e hc⟩
        · rw [vgV, topV_o _ _ (by omega), upd_at, if_neg (by omega), upd_at, if_neg (by omega)]
        · rw [vgV, topV_o _ _ (by omega), upd_at, if_neg (by omega), upd_at, if_neg (by omega)]
        · rw [vgV, topV_o _ _ (by omega), upd_at, if_neg (by omega), upd_at, if_neg (by omega)]
        · exact s_views_vis t s.v0 n4 s.v1 (by omega) (nI i) (s.scr_y hi hl) (by omega) hc p3 h2 h3 true Q
        · exact ((FRD.uA _ (by omega) (by omega) _).tr (FRD.uA _ (by omega) (by omega) _)).tr (FRD.uI _ (by omega) (by omega) _ _)
  · obtain ⟨h1, h2, h3⟩ := s.hid_at hi hl
    obtain ⟨p', lo', s'⟩ := vh_si s hi hl
    refine ⟨_, _, _, _, _, _, s', ⟨⟨fun e he => ?_, ?_, fun e h1 h2 => ?_⟩, fun h M s0 t Q => ?_, fun h d t => ⟨_, fun Q => ?_, dvs_hid t s hl hi, ?_⟩⟩, fun e => absurd (e ▸ cn) hl⟩
    · rw [vhV, upd_at, if_neg (by omega), topV_o _ _ (by omega)]
    · rw [vhV, upd_at, if_neg (by omega), topV_o _ _ (by omega)]
    · rw [vhV, upd_at, if_neg (by omega), topV_o _ _ (by omega)]
    · exact s_views_hidden t s.v0 n4 s.v1 (by omega) (nI i) (nb b) (s.scr_n hi hl) (by omega) h2 h3 Q
    · cases b with
      | false => exact s_Screens_bring_hidden (t.sc s) (nI i) (s.dfnd_n t hi hl) (s.dhid t hi hl) h1 Q
      | true => exact s_Screens_bringGreedily_hidden (t.sc s) (nI i) (s.dfnd_n t hi hl) (s.dhid t hi hl) h1 Q
    · exact ((FRD.uA _ (by omega) (by omega) _).tr (FRD.uI _ (by omega) (by omega) _ _)).tr (FRD.uA _ (by omega) (by omega) _)
end VIEW
section VIEW2
variable {v v' : Nat → Int32} {n : Nat} {C H P : Nat → Nat} {h h' : pm_H} {d : Nat}
theorem DV.dvs (t : DV h d v n C H) : DVS h d v n := ⟨t.k.2.2.2.2.2.2.2.2.2.1, t.many, t.cur, t.vsz, t.hsz, t.ws, t.bx, t.vis, t.hid⟩
theorem DV.vw (t : DV h d v n C H) (u : DVS h' d v' n) (f : FRD (d + 39) (d + 50) h h') (vw : VW v v' n) : DV h' d v' n C H := by
  refine ⟨t.k.cg f.fk f.fp, u.many, u.cur, u.vsz, u.hsz, u.ws, u.bx, u.vis, u.hid, fun i c hi hc => ?_, fun i hi => ?_, fun i hi => ?_, fun i k hi hk => ?_, fun w hw => ?_, fun w c hw hc => ?_, fun w => ?_⟩
  · rw [f.fi _ (by omega), vw.1 _ (by omega)]; exact t.lay i c hi hc
  · rw [f.fi _ (by omega), vw.1 _ (by omega)]; exact t.cnt i hi
  · rw [f.fi _ (by omega), vw.1 _ (by omega)]; exact t.foc i hi
  · rw [f.fi _ (by omega), vw.1 _ (by omega)]; exact t.ord i k hi hk
  · rw [f.fi _ (by omega), t.hom w hw]; rw [vw.1 _ (by omega)]
  · rw [f.fi _ (by omega), t.shr w c hw hc]; rw [vw.1 _ (by omega)]
  · rw [f.fj _ (by omega), t.bit w]; rw [vw.1 _ (by omega)]
def mixV (a b : Nat → Int32) : Nat → Int32 := fun e => if e < 35 then a e else b e
theorem mix_lo (a b : Nat → Int32) {e : Nat} (h : e < 35) : mixV a b e = a e := by simp only [mixV, h, if_true]
theorem mix_hi (a b : Nat → Int32) {e : Nat} (h : 35 ≤ e) : mixV a b e = b e := by rw [mixV, if_neg (by omega)]
theorem DVS.cg (u : DVS h d v n) (hn : n ≤ 4) (w : ∀ e, e < 35 → v' e = v e) : DVS h d v' n := by
  refine ⟨u.k, ?_, ?_, u.vsz, u.hsz, fun j hj => ?_, fun j c hj hc => ?_, fun k hk => ?_, fun k hk => ?_⟩
  · rw [w _ (by omega)]; exact u.many
  · rw [w _ (by omega)]; exact u.cur
  · rw [w _ (by omega)]; exact u.ws j hj
  · rw [w _ (by omega)]; exact u.bx j c hj hc
  · rw [w _ (by omega)]; exact u.vis k hk
  · rw [w _ (by omega)]; exact u.hid k hk
theorem DV.mix (t : DV h d v n C H) (u : DVS h' d v' n) (hn : n ≤ 4) (f : FRD (d + 39) (d + 50) h h') : DV h' d (mixV v' v) n C H := by
  have u := u.cg (v' := mixV v' v) hn (fun e he => mix_lo _ _ he)
  refine ⟨t.k.cg f.fk f.fp, u.many, u.cur, u.vsz, u.hsz, u.ws, u.bx, u.vis, u.hid, fun i c hi hc => ?_, fun i hi => ?_, fun i hi => ?_, fun i k hi hk => ?_, fun w hw => ?_, fun w c hw hc => ?_, fun w => ?_⟩
  · rw [f.fi _ (by omega), mix_hi _ _ (by omega)]; exact t.lay i c hi hc
  · rw [f.fi _ (by omega), mix_hi _ _ (by omega)]; exact t.cnt i hi
  · rw [f.fi _ (by omega), mix_hi _ _ (by omega)]; exact t.foc i hi
  · rw [f.fi _ (by omega), mix_hi _ _ (by omega)]; exact t.ord i k hi hk
  · rw [f.fi _ (by omega), t.hom w hw, mix_hi _ _ (by omega)]
  · rw [f.fi _ (by omega), t.shr w c hw hc, mix_hi _ _ (by omega)]
  · rw [f.fj _ (by omega), t.bit w, mix_hi _ _ (by omega)]
theorem DV.cgv (t : DV h d v n C H) (hn : n ≤ 4) (c60 : ∀ k, k < 9 → C k ≤ 60) (w : ∀ e, e < 980 → v' e = v e) : DV h d v' n C H := by
  refine ⟨t.k, ?_, ?_, t.vsz, t.hsz, fun j hj => ?_, fun j c hj hc => ?_, fun k hk => ?_, fun k hk => ?_, fun i c hi hc => ?_, fun i hi => ?_, fun i hi => ?_, fun i k hi hk => ?_, fun x hx => ?_, fun x c hx hc => ?_, fun x => ?_⟩
  · rw [w _ (by omega)]; exact t.many
  · rw [w _ (by omega)]; exact t.cur
  · rw [w _ (by omega)]; exact t.ws j hj
  · rw [w _ (by omega)]; exact t.bx j c hj hc
  · rw [w _ (by omega)]; exact t.vis k hk
  · rw [w _ (by omega)]; exact t.hid k hk
  · rw [w _ (by omega)]; exact t.lay i c hi hc
  · rw [w _ (by omega)]; exact t.cnt i hi
  · rw [w _ (by omega)]; exact t.foc i hi
  · have := c60 i hi
    rw [w _ (by omega)]; exact t.ord i k hi hk
  · rw [w _ (by omega)]; exact t.hom x hx
  · rw [w _ (by omega)]; exact t.shr x c hx hc
  · rw [t.bit x]
    by_cases hx : x < 60
    · rw [w _ (by omega)]
    · simp [hx]
theorem SI.cg {c : Nat} {p lo r rl : Nat → Nat} (s : SI v n c p lo r rl) (w : ∀ e, e < 35 → v' e = v e) : SI v' n c p lo r rl := by
  have n4 := s.n4
  have cn := s.cn
  refine ⟨s.n1, s.n4, s.cn, ?_, ?_, ?_, fun j hj => ?_, fun k hk => ?_, s.pl, s.r0, fun k hk => ?_, s.rr, fun j h1 h2 => ?_, fun k h1 h2 => ?_, fun k h1 h2 => ?_, fun e h1 h2 => ?_, fun j hj => ?_⟩
  · rw [w _ (by omega)]; exact s.v0
  · rw [w _ (by omega)]; exact s.v1
  · rw [w _ (by omega)]; exact s.v25
  · rw [w _ (by omega)]; exact s.sh j hj
  · rw [w _ (by omega)]; exact s.hd k hk
  · rw [w _ (by omega)]; exact s.vs k hk
  · rw [w _ (by omega)]; exact s.zs j h1 h2
  · rw [w _ (by omega)]; exact s.zh k h1 h2
  · rw [w _ (by omega)]; exact s.zv k h1 h2
  · rw [w _ (by omega)]; exact s.zb e h1 h2
  · have := s.bx j hj
    simp only [bxV] at this ⊢
    rw [w _ (by omega), w _ (by omega), w _ (by omega), w _ (by omega)]
    exact this
theorem RI.cg (q : RI v C H P) (w : ∀ e, 35 ≤ e → e < 980 → v' e = v e) : RI v' C H P := by
  have ew : ∀ i k, i < 9 → k < 60 → wV v' i k = wV v i k := fun i k hi hk => by
    simp only [wV]; rw [w _ (by omega) (by omega)]
  have e6 : ∀ w0, w0 < 60 → v' (620 + 6 * w0) = v (620 + 6 * w0) := fun w0 h => w _ (by omega) (by omega)
  refine ⟨fun i hi => ?_, fun i hi => ?_, fun i hi => ?_, fun i hi => ?_, q.c60, fun i hi => ?_, fun i k hi hk => ?_, fun i k hi h1 h2 => ?_, fun x hx ht => ?_, fun x hx => ?_, fun x hx => ?_, fun x c hx hc => ?_, ?_⟩
  · rw [w _ (by omega) (by omega)]; exact q.kd i hi
  · rw [w _ (by omega) (by omega)]; exact q.ms i hi
  · rw [w _ (by omega) (by omega)]; exact q.pt i hi
  · rw [w _ (by omega) (by omega)]; exact q.ct i hi
  · rw [w _ (by omega) (by omega)]; exact q.fo i hi
  · have hc := q.c60 i hi
    have := q.od i k hi hk
    rw [ew i k hi (by omega), e6 _ this.1, w _ (by omega) (by omega)]; exact this
  · rw [w _ (by omega) (by omega)]; exact q.zo i k hi h1 h2
  · rw [e6 x hx] at ht
    have := q.hp x hx ht
    have hc := q.c60 _ this.1
    rw [ew _ _ this.1 (by omega)]; exact this
  · rw [e6 x hx]; exact q.th x hx
  · have := q.fl x hx
    rw [e6 x hx, w (620 + 6 * x + 1) (by omega) (by omega)]
    rcases this with ⟨h1, h2⟩ | h1
    · exact Or.inl ⟨h1, fun c hc => by rw [w _ (by omega) (by omega)]; exact h2 c hc⟩
    · exact Or.inr h1
  · rw [w _ (by omega) (by omega)]; exact q.sh x c hx hc
  · rw [q.sm]
    exact cntB_cg 60 (fun j hj => by simp only [e6 j hj])
end VIEW2
