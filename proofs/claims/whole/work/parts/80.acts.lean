-- ACTS AND THE REST, ON BOTH SIDES
section AC
variable {xs : Nat → Int32} {L d y y2 tg r fed n : Nat} {h h' : am_H} {s : Nat → Int32} {tv rd : Value} {wd : Int64} {lg : Nat → Int64} {g mi tr fl pl w x x2 x3 : Int32} {dy : Nat} {τ : lt_T} {td : Bool} {f : Nat → Int32} {p m : pq} {av : List Value}
def boB (V : vT) (y y2 : Nat) (av : List Value) : Prop := ∃ A : Bool, boV V y y2 av (.int (if A = true then 1 else 0))
theorem bob {V V2 : vT} {A : Bool} (c : clV V y av (.int (if A = true then 1 else 0)) V2) (k : mlV V y2 av (.int (if A = true then 1 else 0)) V2) (hV : vO V2) : boB V y y2 av := ⟨A, V2, hV, c, k⟩
theorem pq_push_v {z : p3} (hp : ∀ i, i < p.1 → vN τ (p.2 i)) (hz : vN τ z) : ∀ i, i < (pq_push p z).1 → vN τ ((pq_push p z).2 i) := by
  intro i hi
  unfold pq_push at hi ⊢
  split at hi
  · rename_i e
    rw [if_pos e]
    show vN τ (if i < 15 then p.2 (i + 1) else z)
    split
    · exact hp _ (by omega)
    · exact hz
  · rename_i e
    rw [if_neg e]
    show vN τ (if i < p.1 then p.2 i else z)
    split
    · exact hp _ (by omega)
    · exact hz
theorem vO_act {g2 mi2 : Int32} {dy2 : Nat} (hV : vO (true, fed, (tr, fl, pl), f, (g, mi, dy), τ, p, m)) (hg : ∀ k, 26 ≤ k → nb_t g2 k = false) (hm : ∀ k, τ.1 4 ≤ k → nb_t mi2 k = false) (hd : dy2 ≤ 999) : vO (true, fed, (0, fl, pl), f, (g2, mi2, dy2), τ, pq_push p (g, mi, nI dy), m) := by
  obtain ⟨v1, v2, v3, v4, v5, v6, v7, v8, v9, v10, v11⟩ := hV
  exact ⟨v1, v2, (fun q => nomatch q), hg, hm, hd, pq_push_v v7 ⟨g, mi, dy, rfl, v4, v5, v6⟩, v8, v9, pq_push_le v10, v11⟩
theorem lose_x {c : Nat} (hc : c < 26) (hb : nb_t g c = false) : g ||| (1 : Int32) <<< (nI c &&& 31) = g ^^^ (1 : Int32) <<< (nI c &&& 31) := nb_ext fun k _ => by
  rw [nb_or, nb_xor, nb_one (by omega)]
  by_cases e : k = c
  · rw [e, hb]; simp
  · rw [decide_eq_false e]; simp
theorem find_x {c : Nat} (hc : c < 26) (hb : nb_t g c = true) : g &&& ((1 : Int32) <<< (nI c &&& 31) ^^^ (-1)) = g ^^^ (1 : Int32) <<< (nI c &&& 31) := nb_ext fun k hk => by
  rw [nb_diff, nb_xor, nb_one (by omega)]
  by_cases e : k = c
  · rw [e, hb]; simp
  · rw [decide_eq_false e]; simp
theorem chg_26 {c : Nat} (hc : c < 26) (hg : ∀ k, 26 ≤ k → nb_t g k = false) : ∀ k, 26 ≤ k → nb_t (g ^^^ (1 : Int32) <<< (nI c &&& 31)) k = false := fun k hk => by
  rw [nb_xor, hg k hk, nb_one (by omega), decide_eq_false (by omega)]
  rfl
theorem b_lose (hV : vO (td, fed, (tr, fl, pl), f, (g, mi, dy), τ, p, m)) : boB (td, fed, (tr, fl, pl), f, (g, mi, dy), τ, p, m) 61 291 [.int x] := by
  by_cases q : td = true ∧ 0 ≤ x ∧ x < 26
  · obtain ⟨rfl, q1, q2⟩ := q
    obtain ⟨c, hc, rfl⟩ := nI_ofx (n := 26) q1 q2 (by decide)
    cases hb : nb_t g c with
    | false => exact bob (cl_A (fun W e6 => by rw [← lose_x hc hb]; exact vb (c_lose W.1 W.2.2.1 (s61 e6) hc hb))) (ml_A (fun M P => vb (q_lose M P hc hb))) (vO_act hV (chg_26 hc hV.2.2.2.1) hV.2.2.2.2.1 hV.2.2.2.2.2.1)
    | true => exact bob (cl_R (fun W e6 _ => vb (c_lose5 W.1 (s61 e6) hc hb))) (ml_R (by decide) (fun O _ _ => by obtain ⟨r, rfl, M⟩ := O.2.1 rfl; exact vb (q_lose5 M hc hb))) hV
  · exact bob (cl_R (w := if td = true then 2 else 1) (fun W e6 _ => by rw [← w_eq e6]; exact vb (c_lose0 W.1 (fun z => q ⟨(s6i e6).mp z.1, z.2⟩)))) (ml_R w_4 (fun O _ _ => vb (q_lose0 O q))) hV
theorem b_find (hV : vO (td, fed, (tr, fl, pl), f, (g, mi, dy), τ, p, m)) : boB (td, fed, (tr, fl, pl), f, (g, mi, dy), τ, p, m) 62 297 [.int x] := by
  by_cases q : td = true ∧ 0 ≤ x ∧ x < 26
  · obtain ⟨rfl, q1, q2⟩ := q
    obtain ⟨c, hc, rfl⟩ := nI_ofx (n := 26) q1 q2 (by decide)
    cases hb : nb_t g c with
    | true => exact bob (cl_A (fun W e6 => by rw [← find_x hc hb]; exact vb (c_find W.1 W.2.2.1 (s61 e6) hc hb))) (ml_A (fun M P => vb (q_find M P hc hb))) (vO_act hV (chg_26 hc hV.2.2.2.1) hV.2.2.2.2.1 hV.2.2.2.2.2.1)
    | false => exact bob (cl_R (fun W e6 _ => vb (c_find5 W.1 (s61 e6) hc hb))) (ml_R (by decide) (fun O _ _ => by obtain ⟨r, rfl, M⟩ := O.2.1 rfl; exact vb (q_find5 M hc hb))) hV
  · exact bob (cl_R (w := if td = true then 2 else 1) (fun W e6 _ => by rw [← w_eq e6]; exact vb (c_find0 W.1 (fun z => q ⟨(s6i e6).mp z.1, z.2⟩)))) (ml_R w_4 (fun O _ _ => vb (q_find0 O q))) hV
theorem b_coin (hV : vO (td, fed, (tr, fl, pl), f, (g, mi, dy), τ, p, m)) : boB (td, fed, (tr, fl, pl), f, (g, mi, dy), τ, p, m) 63 298 [.int x] := by
  have b4 := hV.1.1.2.2.2.2.1
  by_cases q : td = true ∧ 0 ≤ x ∧ x < nI (τ.1 4)
  · obtain ⟨rfl, q1, q2⟩ := q
    obtain ⟨c, hc, rfl⟩ := nI_ofx q1 q2 (by omega)
    cases hb : nb_t mi c with
    | false => exact bob (cl_A (fun W e6 => vb (c_coin W.1 W.2.2.1 (s61 e6) hc hb))) (ml_A (fun M P => vb (q_coin M P hc hb))) (vO_act hV hV.2.2.2.1 (fun k hk => by rw [nb_or, hV.2.2.2.2.1 k hk, nb_one (by omega), decide_eq_false (by omega)]; rfl) hV.2.2.2.2.2.1)
    | true => exact bob (cl_R (fun W e6 _ => vb (c_coin5 W.1 (s61 e6) hc hb))) (ml_R (by decide) (fun O _ _ => by obtain ⟨r, rfl, M⟩ := O.2.1 rfl; exact vb (q_coin5 M hc hb))) hV
  · exact bob (cl_R (w := 1) (fun W e6 _ => vb (c_coin0 W.1 (fun z => q ⟨(s6i e6).mp z.1, z.2⟩)))) (ml_R (by decide) (fun O _ _ => vb (q_coin0 O q))) hV
theorem b_days (hV : vO (td, fed, (tr, fl, pl), f, (g, mi, dy), τ, p, m)) : boI (td, fed, (tr, fl, pl), f, (g, mi, dy), τ, p, m) 64 299 [.int x] := by
  by_cases q : td = true ∧ 1 ≤ x ∧ x ≤ 99
  · obtain ⟨rfl, q1, q2⟩ := q
    obtain ⟨c, hc, rfl⟩ := nI_of1 (n := 99) q1 q2 (by decide)
    by_cases hd : dy + c ≤ 999
    · exact boi (cl_A (fun W e6 => vi (c_days W.1 W.2.2.1 (s61 e6) hc hd))) (ml_A (fun M P => vi (q_days M P hc hd))) (vO_act hV (lt_gk_hi hV.2.2.2.1 c) hV.2.2.2.2.1 hd)
    · exact boi (cl_R (fun W e6 _ => vi (c_days3 W.1 (s61 e6) hc hd))) (ml_R (by decide) (fun O _ _ => by obtain ⟨r, rfl, M⟩ := O.2.1 rfl; exact vi (q_days3 M hc hd))) hV
  · exact boi (cl_R (w := if td = true then 2 else 1) (fun W e6 _ => by rw [← w_eq e6]; exact vi (c_days0 W.1 (fun z => q ⟨(s6i e6).mp z.1, z.2⟩)))) (ml_R w_4 (fun O _ _ => vi (q_days0 O q))) hV
theorem b_undo (hV : vO (td, fed, (tr, fl, pl), f, (g, mi, dy), τ, p, m)) : boB (td, fed, (tr, fl, pl), f, (g, mi, dy), τ, p, m) 65 300 [] := by
  by_cases q : p.1 = 0
  · exact bob (cl_R (w := 6) (fun W e6 _ => vb (c_undo0 W.1 W.2.2.1 q))) (ml_R (by decide) (fun O P _ => vb (q_undo0 O P q))) hV
  · cases td with
    | false => exact absurd (hV.2.2.1 rfl).2.2.1 q
    | true =>
      obtain ⟨v1, v2, v3, v4, v5, v6, v7, v8, v9, v10, v11⟩ := hV
      obtain ⟨g2, mi2, dy2, e, hg2, hm2, hd2⟩ := v7 (p.1 - 1) (by omega)
      exact bob (cl_A (fun W e6 => vb (c_undo W.1 W.2.2.1 (by omega) e hm2 hd2))) (ml_A (fun M P => vb (q_undo M P (by omega) e hm2 hg2 hd2))) ⟨v1, v2, (fun q => nomatch q), hg2, hm2, hd2, fun i hi => v7 i (Nat.lt_of_lt_of_le hi (Nat.sub_le _ _)), v8, v9, Nat.le_trans (Nat.sub_le _ _) v10, v11⟩
theorem b_mark (hV : vO (td, fed, (tr, fl, pl), f, (g, mi, dy), τ, p, m)) : boI (td, fed, (tr, fl, pl), f, (g, mi, dy), τ, p, m) 66 302 [] := by
  cases td with
  | false => exact boi (cl_R (w := 1) (fun W e6 _ => vi (c_mark0 W.1 (s60 e6)))) (ml_R (by decide) (fun O P _ => vi (q_mark0 O rfl))) hV
  | true =>
    by_cases q : m.1 < 3
    · obtain ⟨v1, v2, v3, v4, v5, v6, v7, v8, v9, v10, v11⟩ := hV
      refine boi (cl_A (fun W e6 => vi (c_mark W.1 W.2.2.1 (s61 e6) q))) (ml_A (fun M P => vi (q_mark M P q))) ⟨v1, v2, (fun q => nomatch q), v4, v5, v6, v7, fun i hi => ?_, v9, v10, q⟩
      show vN τ (if i < m.1 then m.2 i else (g, mi, nI dy))
      split
      · exact v8 i (by assumption)
      · exact ⟨g, mi, dy, rfl, v4, v5, v6⟩
    · exact boi (cl_R (w := 3) (fun W e6 _ => vi (c_mark3 W.1 W.2.2.1 (s61 e6) q))) (ml_R (by decide) (fun O P _ => by obtain ⟨r, rfl, M⟩ := O.2.1 rfl; exact vi (q_mark3 M P q))) hV
theorem b_back (hV : vO (td, fed, (tr, fl, pl), f, (g, mi, dy), τ, p, m)) : boB (td, fed, (tr, fl, pl), f, (g, mi, dy), τ, p, m) 67 303 [.int x] := by
  by_cases q : 0 ≤ x ∧ x < nI m.1
  · obtain ⟨v1, v2, v3, v4, v5, v6, v7, v8, v9, v10, v11⟩ := hV
    obtain ⟨c, hc, rfl⟩ := nI_ofx q.1 q.2 (by omega)
    cases td with
    | false => have := (v3 rfl).2.2.2; omega
    | true =>
      obtain ⟨g2, mi2, dy2, e, hg2, hm2, hd2⟩ := v8 c hc
      exact bob (cl_A (fun W e6 => vb (c_back W.1 W.2.2.1 hc e hm2 hd2))) (ml_A (fun M P => vb (q_back M P hc e hm2 hg2 hd2))) ⟨v1, v2, (fun q => nomatch q), hg2, hm2, hd2, fun i hi => absurd hi (Nat.not_lt_zero i), v8, v9, Nat.zero_le _, v11⟩
  · exact bob (cl_R (w := 1) (fun W e6 _ => vb (c_back0 W.1 W.2.2.1 q))) (ml_R (by decide) (fun O P _ => vb (q_back0 O P (fun z => q z.2)))) hV
theorem b_fault (hV : vO (td, fed, (tr, fl, pl), f, (g, mi, dy), τ, p, m)) : boI (td, fed, (tr, fl, pl), f, (g, mi, dy), τ, p, m) 8 211 [] :=
  boi (cl_s (A := .int fl) (fun W _ _ _ e9 _ => by rw [← e9]; exact vi (c_fault W.1.1))) (ml_z (fun O _ _ _ _ e12 => by rw [← e12]; exact vi (q_fault O.1))) hV
theorem b_trouble (hV : vO (td, fed, (tr, fl, pl), f, (g, mi, dy), τ, p, m)) : boI (td, fed, (tr, fl, pl), f, (g, mi, dy), τ, p, m) 69 306 [] :=
  boi (cl_s (A := .int tr) (fun W _ _ e8 _ _ => by rw [← e8]; exact vi (c_trouble W.1.1))) (ml_z (fun O _ _ e1 _ _ => by rw [← e1]; exact vi (q_trouble O.1))) hV
theorem b_where (hV : vO (td, fed, (tr, fl, pl), f, (g, mi, dy), τ, p, m)) : boI (td, fed, (tr, fl, pl), f, (g, mi, dy), τ, p, m) 9 212 [] :=
  boi (cl_s (A := .int (if tr = 4 then pl else -1)) (fun W _ _ e8 _ e10 => by rw [← e8, ← e10]; exact vi (c_where W.1.1))) (ml_z (fun O _ _ _ e2 _ => by rw [← e2]; exact vi (q_where O.1))) hV
theorem b_size (hV : vO (td, fed, (tr, fl, pl), f, (g, mi, dy), τ, p, m)) : boI (td, fed, (tr, fl, pl), f, (g, mi, dy), τ, p, m) 68 305 [.int x] := by
  by_cases q : ∃ k, k < 12 ∧ x = nI k
  · obtain ⟨k, hk, rfl⟩ := q
    cases td with
    | true => exact boi (cl_s (fun W _ e7 _ _ _ => vi (c_size W.1 W.2.2.1 e7 hk))) (ml_z (fun O P e6 _ _ _ => by obtain ⟨r, rfl, M⟩ := O.2.1 rfl; exact vi (q_size M e6 P.2.2.1 P.2.2.2.1 hk))) hV
    | false =>
      obtain ⟨z1, z2, z3, z4⟩ := hV.2.2.1 rfl
      have e : nI (szO τ dy p.1 m.1 fed k) = if k = 11 then nI fed else 0 := by
        unfold szO
        by_cases k8 : k < 8
        · rw [if_pos k8, z1 k, if_neg (by omega)]; rfl
        · rw [if_neg k8]
          by_cases k9 : k = 8
          · rw [if_pos k9, z2, if_neg (by omega)]; rfl
          · rw [if_neg k9]
            by_cases k10 : k = 9
            · rw [if_pos k10, z3, if_neg (by omega)]; rfl
            · rw [if_neg k10]
              by_cases k11 : k = 10
              · rw [if_pos k11, z4, if_neg (by omega)]; rfl
              · rw [if_neg k11, if_pos (by omega)]
      exact boi (cl_s (fun W _ e7 _ _ _ => vi (c_size W.1 W.2.2.1 e7 hk))) (ml_z (fun O P e6 _ _ _ => by rw [e]; obtain rfl := O.2.2 rfl; exact vi (q_sizeN O.1 e6 hk))) hV
  · exact boi (cl_s (fun W _ e7 _ _ _ => vi (c_sizeN q))) (ml_z (fun O P e6 _ _ _ => vi (q_sizeO q O.1))) hV
theorem b_feed {v : Nat → Int32} (hV : vO (td, fed, (tr, fl, pl), f, (g, mi, dy), τ, p, m)) : boI (td, fed, (tr, fl, pl), f, (g, mi, dy), τ, p, m) 2 180 [.int (v 0), .int (v 1), .int (v 2), .int (v 3), .int (v 4)] := by
  obtain ⟨v1, v2, v3, v4, v5, v6, v7, v8, v9, v10⟩ := id hV
  by_cases q : fed + 20 ≤ 1000
  · refine ⟨nI (fed + 20), (td, fed + 20, (tr, fl, pl), tpN f fed v 20, (g, mi, dy), τ, p, m), ⟨v1, v2, v3, v4, v5, v6, v7, v8, q, v10⟩, ?_, ?_⟩
    · intro xs L d h X
      obtain ⟨tg, s, W, e6, e7, e8, e9, e10⟩ := X
      refine am_m_mono (vi (c_feed W.1.1 W.2.2.2.1 e7 q)) (fun u h' ⟨e, e2⟩ => ?_)
      subst e2
      obtain ⟨C, G, P, xT, ⟨fl, pl, x2⟩, xk, ⟨q0, i0, bh0, k0, p0, sp0, wh0, x3⟩, xz⟩ := W
      have ht := C.2.2.2.2.1
      have z : ∀ k, k ≠ 0 → k ≠ 1 → (am_set (am_set h 1 (.inl (2, 1000, .inl (tpN f fed v 20)))) 0 (.inr (6, cgl tg (upd s 7 (nI (fed + 20)))))).2.2 k = h.2.2 k := fun k hk hk1 => (am_gn _ _ hk).trans (am_gn _ _ hk1)
      obtain ⟨c1, c2, c3, c4⟩ := C
      refine ⟨e, ⟨tg, upd s 7 (nI (fed + 20)), ⟨⟨am_gs _ _ _, (z 18 (by omega) (by omega)).trans c2, ct_frame c3 (fun k _ _ => z k (by omega) (by omega)), c4⟩, gG_frm G (fun k _ _ => z k (by omega) (by omega)), cPs_frm P (fun k _ _ => z k (by omega) (by omega)), (am_gn _ _ (by decide)).trans (am_gs _ _ _), ⟨fl, pl, (z 2 (by omega) (by omega)).trans x2⟩, cKy_f xk (z 5 (by omega) (by omega)), ⟨q0, i0, bh0, k0, p0, sp0, wh0, (z 3 (by omega) (by omega)).trans x3⟩, cz_frm xz (fun k _ _ => z k (by omega) (by omega))⟩, e6, rfl, e8, e9, e10⟩, rfl, rfl, fun k hk => z k (by omega) (by omega)⟩
    · intro xs L d h X
      obtain ⟨s, tv, rd, wd, lg, X⟩ := X
      have X0 := X
      obtain ⟨O, hr, ⟨e1, e2, e6, e12⟩, e59, P, a1, a2, a3, h66⟩ := X0
      refine am_m_mono (vi (q_feed O.1 e59 e6 q)) (fun u h' ⟨e, e3⟩ => ?_)
      subst e3
      have z : ∀ k, k ≠ 58 → k ≠ 59 → (am_set (am_set h 59 (.inl (2, 1000, .inl (tpN f fed v 20)))) 58 (.inr (8, mo 58 (upd (upd s 0 0) 6 (nI (fed + 20))) tv rd wd lg))).2.2 k = h.2.2 k := fun k hk hk1 => (am_gn _ _ hk).trans (am_gn _ _ hk1)
      obtain ⟨a1, b1⟩ := a1
      obtain ⟨a2, b2⟩ := a2
      obtain ⟨a3, b3⟩ := a3
      obtain ⟨⟨F, f1, f2⟩, ⟨G, g1, g2⟩, e3⟩ := P
      refine ⟨e, ⟨upd (upd s 0 0) 6 (nI (fed + 20)), tv, rd, wd, lg, ⟨am_gs _ _ _, fun t => ?_, O.2.2⟩, hr, ⟨e1, e2, rfl, e12⟩, (am_gn _ _ (by decide)).trans (am_gs _ _ _), ⟨⟨F, (z 60 (by omega) (by omega)).trans f1, f2⟩, ⟨G, (z 61 (by omega) (by omega)).trans g1, g2⟩, e3⟩, ⟨a1, (z 62 (by omega) (by omega)).trans b1⟩, ⟨a2, (z 63 (by omega) (by omega)).trans b2⟩, ⟨a3, (z 64 (by omega) (by omega)).trans b3⟩, h66⟩, Nat.le_refl _, Nat.le_add_right _ _, Nat.le_refl _, Nat.le_add_right _ _, fun k hk => z k (by omega) (by omega)⟩
      obtain ⟨r, e0, m1, m2, m3, m4, m5⟩ := O.2.1 t
      subst e0
      exact ⟨r, rfl, am_gs _ _ _, mt_frame m2 (fun k _ _ => z k (by omega) (by omega)), m3, m4, m5⟩
  · exact boi (cl_s (fun W _ e7 _ _ _ => vi (c_feed0 W.1.1 e7 q v9))) (ml_z (fun O P e6 _ _ _ => vi (q_feed0 O.1 e6 q v9))) hV
theorem lt_go_hi {k j : Nat} (hk : 26 ≤ k) : nb_t (lt_go τ j) k = false := by
  unfold lt_go
  rw [nb_mk_t _ _ (by decide), decide_eq_false (by omega)]
  rfl
theorem b_tongue (hV : vO (td, fed, (tr, fl, pl), f, (g, mi, dy), τ, p, m)) : boI (td, fed, (tr, fl, pl), f, (g, mi, dy), τ, p, m) 4 181 [.int x] := by
  obtain ⟨v1, v2, v3, v4, v5, v6, v7, v8, v9, v10, v11⟩ := id hV
  by_cases q : 0 ≤ x ∧ x ≤ nI fed
  · obtain ⟨n, hn, rfl⟩ := nI_ofl q.1 q.2 (by omega)
    have cc := fun (xs : Nat → Int32) (L d : Nat) (h : am_H) (tg : Nat) (s : Nat → Int32) (W : cW h tg s g mi dy τ p m f) (e7 : s 7 = nI fed) => c_tongue (xs := xs) (L := L) (d := d + 3) (n := n) W e7 hn v9
    have mm := fun (xs : Nat → Int32) (L d : Nat) (h : am_H) (s : Nat → Int32) (tv rd : Value) (wd : Int64) (lg : Nat → Int64) (hq : h.2.2 58 = some (.inr (8, mo 58 s tv rd wd lg))) (hT : h.2.2 59 = some (.inl (2, 1000, .inl f))) (e6 : s 6 = nI fed) (h66 : 66 ≤ h.1) => q_tongue (xs := xs) (L := L) (d := d) (n := n) hq hT e6 hn v9 h66
    generalize pAll f n 1000 lt_00 0 = a at cc mm
    cases a with
    | inl e =>
      refine ⟨-1, (td, 0, (4, nI e.1, nI e.2), f, (g, mi, dy), τ, p, m), ⟨v1, v2, v3, v4, v5, v6, v7, v8, Nat.zero_le _, v10, v11⟩, ?_, ?_⟩
      · intro xs L d h X
        obtain ⟨tg, s, W, e6, e7, e8, e9, e10⟩ := X
        refine am_m_mono (cc xs L d h tg s W e7) (fun u h' ⟨z, e0, ⟨_, t1, s2, W2, t2, t3, t4, t5, t6⟩, fr⟩ => ?_)
        subst t1
        exact ⟨e0, ⟨tg, s2, W2, t2.trans e6, t3, t4, t5, t6⟩, fr.1, fr.2.1, fun k hk => fr.2.2 k (by omega)⟩
      · intro xs L d h X
        obtain ⟨s, tv, rd, wd, lg, O, hr, ⟨e1, e2, e6, e12⟩, e59, ⟨⟨F, f1, f2⟩, ⟨G, g1, g2⟩, p1, p2, p3⟩, ⟨a1, b1⟩, ⟨a2, b2⟩, ⟨a3, b3⟩, h66⟩ := X
        refine am_m_mono (mm xs L d h s tv rd wd lg O.1 e59 e6 h66) (fun u h' ⟨z, e0, ⟨_, t1, s2, rd2, wd2, t2, ⟨t3, t4, t5, t6⟩, t7⟩, n1, n2, z2⟩ => ?_)
        subst t1
        refine ⟨e0, ⟨s2, tv, rd2, wd2, lg, ⟨t2, fun t => ?_, O.2.2⟩, fun r e => by have := hr r e; omega, ⟨t3, t4, t5, t6⟩, (z2 59 (by omega) (by omega)).trans e59, ⟨⟨F, (z2 60 (by omega) (by omega)).trans f1, f2⟩, ⟨G, (z2 61 (by omega) (by omega)).trans g1, g2⟩, (t7 18 (by omega)).trans p1, (t7 19 (by omega)).trans p2, p3⟩, ⟨a1, (z2 62 (by omega) (by omega)).trans b1⟩, ⟨a2, (z2 63 (by omega) (by omega)).trans b2⟩, ⟨a3, (z2 64 (by omega) (by omega)).trans b3⟩, by omega⟩, by omega, by omega, by omega, by omega, fun k hk => z2 k (by omega) (by omega)⟩
        obtain ⟨r, ev, m1, m2, m3, m4, ⟨m5, m6, m7⟩, m8⟩ := O.2.1 t
        have hr2 := hr r ev
        subst ev
        exact ⟨r, rfl, t2, mt_frame m2 (fun k k1 k2 => z2 k (by omega) (by omega)), m3, m4, ⟨(t7 15 (by omega)).trans m5, (t7 16 (by omega)).trans m6, (t7 17 (by omega)).trans m7⟩, m8⟩
    | inr τ2 =>
      by_cases ok : lt_q τ2 ∧ 1 ≤ τ2.1 1 ∧ 1 ≤ τ2.1 0
      · refine ⟨nI (τ2.1 1), (true, 0, (0, 0, 0), f, (lt_go τ2 0, 0, 0), τ2, (0, p.2), (0, m.2)), ⟨lt_q_b ok.1, fun _ => ⟨ok.2.2, ok.2.1⟩, (fun q => nomatch q), fun k hk => lt_go_hi hk, fun k _ => nb_0 k, Nat.zero_le _, fun i hi => absurd hi (Nat.not_lt_zero i), fun i hi => absurd hi (Nat.not_lt_zero i), Nat.zero_le _, Nat.zero_le _, Nat.zero_le _⟩, ?_, ?_⟩
        · intro xs L d h X
          obtain ⟨tg, s, W, e6, e7, e8, e9, e10⟩ := X
          refine am_m_mono (cc xs L d h tg s W e7) (fun u h' ⟨z, e0, ⟨_, t1, s2, W2, t2, t3, t4, t5, t6⟩, fr⟩ => ?_)
          subst t1
          exact ⟨e0, ⟨52 - tg, s2, W2, t2, t3, t4, t5, t6⟩, fr.1, fr.2.1, fun k hk => fr.2.2 k (by omega)⟩
        · intro xs L d h X
          obtain ⟨s, tv, rd, wd, lg, O, hr, ⟨e1, e2, e6, e12⟩, e59, ⟨⟨F, f1, f2⟩, ⟨G, g1, g2⟩, p1, p2, p3⟩, ⟨a1, b1⟩, ⟨a2, b2⟩, ⟨a3, b3⟩, h66⟩ := X
          refine am_m_mono (mm xs L d h s tv rd wd lg O.1 e59 e6 h66) (fun u h' ⟨z, e0, ⟨_, t1, s2, wd2, t2, t3, t4, t5, t6, t7, t8⟩, n1, n2, z2⟩ => ?_)
          subst t1
          exact ⟨e0, ⟨s2, .ref h.1, .ref h.1, wd2, lg, ⟨t2.1, fun _ => ⟨h.1, rfl, t2⟩, fun q => nomatch q⟩, fun r e => by have e := Value.ref.inj e; have e : h.1 = r := e; omega, ⟨t3, t4, t5, t6⟩, (z2 59 (by omega) (by omega)).trans e59, ⟨⟨F, (z2 60 (by omega) (by omega)).trans f1, fun i hi => absurd hi (Nat.not_lt_zero i)⟩, ⟨G, (z2 61 (by omega) (by omega)).trans g1, fun i hi => absurd hi (Nat.not_lt_zero i)⟩, t7, t8, Nat.zero_le _, Nat.zero_le _⟩, ⟨a1, (z2 62 (by omega) (by omega)).trans b1⟩, ⟨a2, (z2 63 (by omega) (by omega)).trans b2⟩, ⟨a3, (z2 64 (by omega) (by omega)).trans b3⟩, by omega⟩, by omega, by omega, by omega, by omega, fun k hk => z2 k (by omega) (by omega)⟩
      · refine ⟨0, (td, fed, (tr, fl, pl), f, (g, mi, dy), τ, p, m), hV, ?_, ?_⟩
        · intro xs L d h X
          obtain ⟨tg, s, W, e6, e7, e8, e9, e10⟩ := X
          exact am_m_mono (cc xs L d h tg s W e7) (fun u h' ⟨z, e0, ⟨no, _⟩, fr⟩ => absurd no ok)
        · intro xs L d h X
          obtain ⟨s, tv, rd, wd, lg, O, hr, ⟨e1, e2, e6, e12⟩, e59, P, ⟨a1, b1⟩, ⟨a2, b2⟩, ⟨a3, b3⟩, h66⟩ := X
          exact am_m_mono (mm xs L d h s tv rd wd lg O.1 e59 e6 h66) (fun u h' ⟨z, e0, ⟨no, _⟩, _⟩ => absurd no ok)
  · exact boi (cl_R (w := 2) (fun W e6 e7 => vi (c_tongue0 W.1 e7 q))) (ml_R (by decide) (fun O _ e6 => vi (q_tongue0 O.1 e6 q))) hV
end AC
