-- THE TWO WORLDS
section WL
variable {xs : Nat → Int32} {L d y tg r fed : Nat} {h h' : am_H} {s : Nat → Int32} {tv rd : Value} {wd : Int64} {lg : Nat → Int64} {g mi tr fl pl w : Int32} {dy : Nat} {τ : lt_T} {td : Bool} {f : Nat → Int32} {p m : pq} {A : Value} {av : List Value}
/-- what both hold: told, fed, trouble, fault, place, the tape, now, the tongue, the past, the marks -/
abbrev vT : Type := Bool × Nat × (Int32 × Int32 × Int32) × (Nat → Int32) × (Int32 × Int32 × Nat) × lt_T × pq × pq
def cXw (h : am_H) (tg : Nat) (s : Nat → Int32) : vT → Prop
  | (td, fed, (tr, fl, pl), f, (g, mi, dy), τ, p, m) => cW h tg s g mi dy τ p m f ∧ s 6 = (if td = true then 1 else 0) ∧ s 7 = nI fed ∧ s 8 = tr ∧ s 9 = fl ∧ s 10 = pl
def cX (h : am_H) (V : vT) : Prop := ∃ tg s, cXw h tg s V
def mXw (h : am_H) (s : Nat → Int32) (tv rd : Value) (wd : Int64) (lg : Nat → Int64) : vT → Prop
  | (td, fed, (tr, fl, pl), f, (g, mi, dy), τ, p, m) => mO h s tv rd wd lg td g mi dy τ ∧ (∀ r : Nat, tv = .ref r → r + 15 ≤ h.1) ∧ (s 1 = tr ∧ s 2 = (if tr = 4 then pl else -1) ∧ s 6 = nI fed ∧ s 12 = fl) ∧ h.2.2 59 = some (.inl (2, 1000, .inl f)) ∧ mP h s p m ∧ (∃ f0, h.2.2 62 = some (.inl (0, 3, .inl f0))) ∧ (∃ f0, h.2.2 63 = some (.inl (0, 4096, .inl f0))) ∧ (∃ f0, h.2.2 64 = some (.inl (0, 4096, .inl f0))) ∧ 66 ≤ h.1
def mX (h : am_H) (V : vT) : Prop := ∃ s tv rd wd lg, mXw h s tv rd wd lg V
def vN (τ : lt_T) (x : p3) : Prop := ∃ g mi dy, x = (g, mi, nI dy) ∧ (∀ k, 26 ≤ k → nb_t g k = false) ∧ (∀ k, τ.1 4 ≤ k → nb_t mi k = false) ∧ dy ≤ 999
def vO : vT → Prop
  | (td, fed, _, _, (g, mi, dy), τ, p, m) => lt_b τ ∧ (td = true → 1 ≤ τ.1 0 ∧ 1 ≤ τ.1 1) ∧ (td = false → (∀ k, τ.1 k = 0) ∧ dy = 0 ∧ p.1 = 0 ∧ m.1 = 0) ∧ (∀ k, 26 ≤ k → nb_t g k = false) ∧ (∀ k, τ.1 4 ≤ k → nb_t mi k = false) ∧ dy ≤ 999 ∧ (∀ i, i < p.1 → vN τ (p.2 i)) ∧ (∀ i, i < m.1 → vN τ (m.2 i)) ∧ fed ≤ 1000 ∧ p.1 ≤ 16 ∧ m.1 ≤ 3
def frC (h h' : am_H) : Prop := h'.1 = h.1 ∧ h'.2.1 = h.2.1 ∧ ∀ k, 58 ≤ k → h'.2.2 k = h.2.2 k
def frM (h h' : am_H) : Prop := h.1 ≤ h'.1 ∧ h'.1 ≤ h.1 + 15 ∧ h.2.1 ≤ h'.2.1 ∧ h'.2.1 ≤ h.2.1 + 134 ∧ ∀ k, k < 58 ∨ k = 65 → h'.2.2 k = h.2.2 k
theorem cs_f58 (C : cs h tg s g mi dy τ) (x : ∀ k, k < 58 → h'.2.2 k = h.2.2 k) : cs h' tg s g mi dy τ := by
  obtain ⟨h1, h2, h3, h4, h5, h6⟩ := C
  exact ⟨(x 0 (by omega)).trans h1, (x 18 (by omega)).trans h2, ct_frame h3 (fun k _ _ => x k (by omega)), h4, h5, h6⟩
theorem cW_f58 (W : cW h tg s g mi dy τ p m f) (x : ∀ k, k < 58 → h'.2.2 k = h.2.2 k) : cW h' tg s g mi dy τ p m f := by
  obtain ⟨C, G, P, xT, ⟨fl, pl, x2⟩, xk, ⟨q0, i0, bh0, k0, p0, sp0, wh0, x3⟩, xz⟩ := W
  have ht := C.2.2.2.2.1
  exact ⟨cs_f58 C x, gG_frm G (fun k _ _ => x k (by omega)), cPs_frm P (fun k _ _ => x k (by omega)), (x 1 (by omega)).trans xT, ⟨fl, pl, (x 2 (by omega)).trans x2⟩, cKy_f xk (x 5 (by omega)), ⟨q0, i0, bh0, k0, p0, sp0, wh0, (x 3 (by omega)).trans x3⟩, cz_frm xz (fun k _ _ => x k (by omega))⟩
theorem cX_f {V : vT} (X : cX h V) (x : ∀ k, k < 58 → h'.2.2 k = h.2.2 k) : cX h' V := by
  obtain ⟨td, fed, ⟨tr, fl, pl⟩, f, ⟨g, mi, dy⟩, τ, p, m⟩ := V
  obtain ⟨tg, s, W, e⟩ := X
  exact ⟨tg, s, cW_f58 W x, e⟩
/-- the class's world with a trouble -/
theorem cW_g (W : cW h tg s g mi dy τ p m f) : cW (cgs h tg s w) tg (upd s 8 w) g mi dy τ p m f := by
  obtain ⟨C, G, P, xT, ⟨fl, pl, x2⟩, xk, ⟨q0, i0, bh0, k0, p0, sp0, wh0, x3⟩, xz⟩ := W
  have ht := C.2.2.2.2.1
  have x : ∀ k, k ≠ 0 → (cgs h tg s w).2.2 k = h.2.2 k := fun k hk => am_gn _ _ hk
  exact ⟨cs_tr C w, gG_frm G (fun k _ _ => x k (by omega)), cPs_g P, (x 1 (by omega)).trans xT, ⟨fl, pl, (x 2 (by omega)).trans x2⟩, cKy_f xk (x 5 (by omega)), ⟨q0, i0, bh0, k0, p0, sp0, wh0, (x 3 (by omega)).trans x3⟩, cz_frm xz (fun k _ _ => x k (by omega))⟩
theorem frC_rf : frC h h := ⟨rfl, rfl, fun _ _ => rfl⟩
theorem frC_g : frC h (cgs h tg s w) := ⟨rfl, rfl, fun k hk => am_gn _ _ (by omega)⟩
/-- one call -/
def clV (V : vT) (y : Nat) (av : List Value) (A : Value) (V2 : vT) : Prop := ∀ (xs : Nat → Int32) (L d : Nat) (h : am_H), cX h V → am_m xs L (d + 10) y (.ref 0 :: av) h (fun v h' => v = some A ∧ cX h' V2 ∧ frC h h')
def mlV (V : vT) (y : Nat) (av : List Value) (A : Value) (V2 : vT) : Prop := ∀ (xs : Nat → Int32) (L d : Nat) (h : am_H), mX h V → am_m xs L (d + 10) y (.ref 58 :: av) h (fun v h' => v = some A ∧ mX h' V2 ∧ frM h h')
def boV (V : vT) (y y2 : Nat) (av : List Value) (A : Value) : Prop := ∃ V2, vO V2 ∧ clV V y av A V2 ∧ mlV V y2 av A V2
def boI (V : vT) (y y2 : Nat) (av : List Value) : Prop := ∃ A : Int32, boV V y y2 av (.int A)
def boJ (V : vT) (y y2 : Nat) (av : List Value) : Prop := ∃ A : Int64, boV V y y2 av (.long A)
theorem vi {P : am_H → Prop} {F : Int32} (H : am_mi xs L d y av h (fun z h' => z = F ∧ P h')) : am_m xs L d y av h (fun v h' => v = some (.int F) ∧ P h') := am_m_mono H (fun _ _ ⟨_, e, e2, e3⟩ => ⟨by rw [e, e2], e3⟩)
theorem vb {P : am_H → Prop} {F : Bool} (H : am_mb xs L d y av h (fun z h' => z = F ∧ P h')) : am_m xs L d y av h (fun v h' => v = some (.int (if F = true then 1 else 0)) ∧ P h') := am_m_mono H (fun _ _ ⟨_, e, e2, e3⟩ => ⟨by rw [e, e2], e3⟩)
theorem vj {P : am_H → Prop} {F : Int64} (H : am_mj xs L d y av h (fun z h' => z = F ∧ P h')) : am_m xs L d y av h (fun v h' => v = some (.long F) ∧ P h') := am_m_mono H (fun _ _ ⟨_, e, e2, e3⟩ => ⟨by rw [e, e2], e3⟩)
theorem cl_R (H : ∀ {xs : Nat → Int32} {L d : Nat} {h : am_H} {tg : Nat} {s : Nat → Int32}, cW h tg s g mi dy τ p m f → s 6 = (if td = true then 1 else 0) → s 7 = nI fed → am_m xs L (d + 10) y (.ref 0 :: av) h (fun v h' => v = some A ∧ h' = cgs h tg s w)) : clV (td, fed, (tr, fl, pl), f, (g, mi, dy), τ, p, m) y av A (td, fed, (w, fl, pl), f, (g, mi, dy), τ, p, m) := by
  intro xs L d h X
  obtain ⟨tg, s, W, e6, e7, e8, e9, e10⟩ := X
  refine am_m_mono (H W e6 e7) (fun v h' ⟨e, e2⟩ => ?_)
  subst e2
  exact ⟨e, ⟨tg, upd s 8 w, cW_g W, e6, e7, rfl, e9, e10⟩, frC_g⟩
theorem cl_s (H : ∀ {xs : Nat → Int32} {L d : Nat} {h : am_H} {tg : Nat} {s : Nat → Int32}, cW h tg s g mi dy τ p m f → s 6 = (if td = true then 1 else 0) → s 7 = nI fed → s 8 = tr → s 9 = fl → s 10 = pl → am_m xs L (d + 10) y (.ref 0 :: av) h (fun v h' => v = some A ∧ h' = h)) : clV (td, fed, (tr, fl, pl), f, (g, mi, dy), τ, p, m) y av A (td, fed, (tr, fl, pl), f, (g, mi, dy), τ, p, m) := by
  intro xs L d h X
  obtain ⟨tg, s, W, e6, e7, e8, e9, e10⟩ := id X
  refine am_m_mono (H W e6 e7 e8 e9 e10) (fun v h' ⟨e, e2⟩ => ?_)
  subst e2
  exact ⟨e, X, frC_rf⟩
theorem cl_G (H : ∀ {xs : Nat → Int32} {L d : Nat} {h : am_H} {tg : Nat} {s : Nat → Int32}, cW h tg s g mi dy τ p m f → s 6 = (if td = true then 1 else 0) → am_m xs L (d + 10) y (.ref 0 :: av) h (fun v h' => v = some A ∧ frm 41 45 (cgs h tg s 0) h' ∧ gG h' τ)) : clV (td, fed, (tr, fl, pl), f, (g, mi, dy), τ, p, m) y av A (td, fed, (0, fl, pl), f, (g, mi, dy), τ, p, m) := by
  intro xs L d h X
  obtain ⟨tg, s, W, e6, e7, e8, e9, e10⟩ := X
  refine am_m_mono (H W e6) (fun v h' ⟨e, fr, G2⟩ => ?_)
  obtain ⟨C, G, P, xT, ⟨fl, pl, x2⟩, xk, ⟨q0, i0, bh0, k0, p0, sp0, wh0, x3⟩, xz⟩ := cW_g (w := 0) W
  have ht := C.2.2.2.2.1
  have x : ∀ k, k < 41 ∨ 45 < k → h'.2.2 k = (cgs h tg s 0).2.2 k := fr.2.2
  refine ⟨e, ⟨tg, upd s 8 0, ⟨cs_frm C fr, G2, cPs_frm P (fun k _ _ => x k (by omega)), (x 1 (by omega)).trans xT, ⟨fl, pl, (x 2 (by omega)).trans x2⟩, cKy_f xk (x 5 (by omega)), ⟨q0, i0, bh0, k0, p0, sp0, wh0, (x 3 (by omega)).trans x3⟩, cz_frm xz (fun k _ _ => x k (by omega))⟩, e6, e7, rfl, e9, e10⟩, ?_⟩
  exact ⟨fr.1, fr.2.1, fun k hk => (x k (by omega)).trans (am_gn _ _ (by omega))⟩
theorem cl_A {g2 mi2 : Int32} {dy2 : Nat} {p2 m2 : pq} (H : ∀ {xs : Nat → Int32} {L d : Nat} {h : am_H} {tg : Nat} {s : Nat → Int32}, cW h tg s g mi dy τ p m f → s 6 = (if td = true then 1 else 0) → am_m xs L (d + 10) y (.ref 0 :: av) h (fun v h' => v = some A ∧ cAct h tg s τ g2 mi2 dy2 p2 m2 h')) : clV (td, fed, (tr, fl, pl), f, (g, mi, dy), τ, p, m) y av A (td, fed, (0, fl, pl), f, (g2, mi2, dy2), τ, p2, m2) := by
  intro xs L d h X
  obtain ⟨tg, s, W, e6, e7, e8, e9, e10⟩ := X
  refine am_m_mono (H W e6) (fun v h' ⟨e, C2, P2, fr⟩ => ?_)
  obtain ⟨C, G, P, xT, ⟨fl, pl, x2⟩, xk, ⟨q0, i0, bh0, k0, p0, sp0, wh0, x3⟩, xz⟩ := W
  have ht := C.2.2.2.2.1
  have x : ∀ k, k ≠ 0 → k < 18 ∨ 40 < k → h'.2.2 k = h.2.2 k := fr.2.2
  refine ⟨e, ⟨tg, upd s 8 0, ⟨C2, gG_frm G (fun k _ _ => x k (by omega) (by omega)), P2, (x 1 (by omega) (by omega)).trans xT, ⟨fl, pl, (x 2 (by omega) (by omega)).trans x2⟩, cKy_f xk (x 5 (by omega) (by omega)), ⟨q0, i0, bh0, k0, p0, sp0, wh0, (x 3 (by omega) (by omega)).trans x3⟩, cz_frm xz (fun k _ _ => x k (by omega) (by omega))⟩, e6, e7, rfl, e9, e10⟩, ?_⟩
  exact ⟨fr.1, fr.2.1, fun k hk => x k (by omega) (by omega)⟩
-- the model
theorem mO_f (O : mO h s tv rd wd lg td g mi dy τ) (x58 : h'.2.2 58 = h.2.2 58) (x : ∀ r : Nat, tv = .ref r → ∀ k, r ≤ k → k ≤ r + 14 → h'.2.2 k = h.2.2 k) : mO h' s tv rd wd lg td g mi dy τ := by
  refine ⟨x58.trans O.1, fun e => ?_, O.2.2⟩
  obtain ⟨r, e2, h1, h2, h3⟩ := O.2.1 e
  exact ⟨r, e2, x58.trans h1, mt_frame h2 (x r e2), h3⟩
theorem mX_f {V : vT} (X : mX h V) (n : h.1 ≤ h'.1) (x : ∀ k, 58 ≤ k → k ≠ 65 → k < h.1 → h'.2.2 k = h.2.2 k) : mX h' V := by
  obtain ⟨td, fed, ⟨tr, fl, pl⟩, f, ⟨g, mi, dy⟩, τ, p, m⟩ := V
  obtain ⟨s, tv, rd, wd, lg, O, hr, e, e59, ⟨⟨F, f1, f2⟩, ⟨G, g1, g2⟩, e3⟩, ⟨a1, b1⟩, ⟨a2, b2⟩, ⟨a3, b3⟩, h66⟩ := X
  refine ⟨s, tv, rd, wd, lg, mO_f O (x 58 (by omega) (by omega) (by omega)) (fun r e2 k k1 k2 => ?_), fun r e2 => Nat.le_trans (hr r e2) n, e, (x 59 (by omega) (by omega) (by omega)).trans e59, ⟨⟨F, (x 60 (by omega) (by omega) (by omega)).trans f1, f2⟩, ⟨G, (x 61 (by omega) (by omega) (by omega)).trans g1, g2⟩, e3⟩, ⟨a1, (x 62 (by omega) (by omega) (by omega)).trans b1⟩, ⟨a2, (x 63 (by omega) (by omega) (by omega)).trans b2⟩, ⟨a3, (x 64 (by omega) (by omega) (by omega)).trans b3⟩, Nat.le_trans h66 n⟩
  have := hr r e2
  cases td with
  | true =>
    obtain ⟨r', e4, M⟩ := O.2.1 rfl
    have e5 : r = r' := by rw [e2] at e4; exact Value.ref.inj e4
    have m4 : 66 ≤ r := by rw [e5]; exact M.2.2.2.1
    clear e5
    exact x k (by omega) (by omega) (by omega)
  | false =>
    have := O.2.2 rfl
    rw [e2] at this
    exact nomatch this
/-- rows that a query may use -/
def mh1 (h h1 : am_H) : Prop := h1 = h ∨ (∃ f, h1 = am_set h 62 (.inl (0, 3, .inl f))) ∨ (∃ f, h1 = am_set h 63 (.inl (0, 4096, .inl f))) ∨ ∃ f, h1 = am_set h 64 (.inl (0, 4096, .inl f))
theorem mh1_f {h1 : am_H} (H : mh1 h h1) : h1.1 = h.1 ∧ h1.2.1 = h.2.1 ∧ ∀ k, k < 62 ∨ 64 < k → h1.2.2 k = h.2.2 k := by
  rcases H with rfl | ⟨f, rfl⟩ | ⟨f, rfl⟩ | ⟨f, rfl⟩
  · exact ⟨rfl, rfl, fun _ _ => rfl⟩
  · exact ⟨rfl, rfl, fun k hk => am_gn _ _ (by omega)⟩
  · exact ⟨rfl, rfl, fun k hk => am_gn _ _ (by omega)⟩
  · exact ⟨rfl, rfl, fun k hk => am_gn _ _ (by omega)⟩
theorem mh1_r {h1 : am_H} (H : mh1 h h1) (a : (∃ f0, h.2.2 62 = some (.inl (0, 3, .inl f0))) ∧ (∃ f0, h.2.2 63 = some (.inl (0, 4096, .inl f0))) ∧ (∃ f0, h.2.2 64 = some (.inl (0, 4096, .inl f0)))) : (∃ f0, h1.2.2 62 = some (.inl (0, 3, .inl f0))) ∧ (∃ f0, h1.2.2 63 = some (.inl (0, 4096, .inl f0))) ∧ (∃ f0, h1.2.2 64 = some (.inl (0, 4096, .inl f0))) := by
  obtain ⟨⟨a1, b1⟩, ⟨a2, b2⟩, ⟨a3, b3⟩⟩ := a
  rcases H with rfl | ⟨f, rfl⟩ | ⟨f, rfl⟩ | ⟨f, rfl⟩
  · exact ⟨⟨a1, b1⟩, ⟨a2, b2⟩, ⟨a3, b3⟩⟩
  · exact ⟨⟨f, am_gs _ _ _⟩, ⟨a2, (am_gn _ _ (by decide)).trans b2⟩, ⟨a3, (am_gn _ _ (by decide)).trans b3⟩⟩
  · exact ⟨⟨a1, (am_gn _ _ (by decide)).trans b1⟩, ⟨f, am_gs _ _ _⟩, ⟨a3, (am_gn _ _ (by decide)).trans b3⟩⟩
  · exact ⟨⟨a1, (am_gn _ _ (by decide)).trans b1⟩, ⟨a2, (am_gn _ _ (by decide)).trans b2⟩, ⟨f, am_gs _ _ _⟩⟩
theorem mX_put (X : mXw h s tv rd wd lg (td, fed, (tr, fl, pl), f, (g, mi, dy), τ, p, m)) {h1 : am_H} (H : mh1 h h1) {s2 : Nat → Int32} {lg2 : Nat → Int64} (e : ∀ k, k = 6 ∨ k = 12 ∨ k = 15 ∨ k = 16 ∨ k = 17 ∨ k = 18 ∨ k = 19 → s2 k = s k) (e1 : s2 1 = w) (e2 : s2 2 = if w = 4 then pl else -1) : mX (am_set h1 58 (.inr (8, mo 58 s2 tv rd wd lg2))) (td, fed, (w, fl, pl), f, (g, mi, dy), τ, p, m) ∧ frM h (am_set h1 58 (.inr (8, mo 58 s2 tv rd wd lg2))) := by
  obtain ⟨O, hr, ⟨_, _, e6, e12⟩, e59, ⟨⟨F, f1, f2⟩, ⟨G, g1, g2⟩, e3, e4, e5⟩, a1, a2, a3, h66⟩ := X
  obtain ⟨n1, n2, x⟩ := mh1_f H
  obtain ⟨a1, a2, a3⟩ := mh1_r H ⟨a1, a2, a3⟩
  have y : ∀ k, k ≠ 58 → (am_set h1 58 (.inr (8, mo 58 s2 tv rd wd lg2))).2.2 k = h1.2.2 k := fun k hk => am_gn _ _ hk
  refine ⟨⟨s2, tv, rd, wd, lg2, ⟨am_gs _ _ _, fun t => ?_, O.2.2⟩, fun r e => Nat.le_trans (hr r e) (Nat.le_of_eq n1.symm), ⟨e1, e2, (e 6 (by omega)).trans e6, (e 12 (by omega)).trans e12⟩, (y 59 (by omega)).trans ((x 59 (by omega)).trans e59), ⟨⟨F, (y 60 (by omega)).trans ((x 60 (by omega)).trans f1), f2⟩, ⟨G, (y 61 (by omega)).trans ((x 61 (by omega)).trans g1), g2⟩, (e 18 (by omega)).trans e3, (e 19 (by omega)).trans e4, e5⟩, ?_, ?_, ?_, Nat.le_trans h66 (Nat.le_of_eq n1.symm)⟩, ?_⟩
  · obtain ⟨r, e0, m1, m2, m3, m4, ⟨m5, m6, m7⟩, m8⟩ := O.2.1 t
    subst e0
    exact ⟨r, rfl, am_gs _ _ _, mt_frame m2 (fun k _ _ => (y k (by omega)).trans (x k (by omega))), m3, m4, ⟨(e 15 (by omega)).trans m5, (e 16 (by omega)).trans m6, (e 17 (by omega)).trans m7⟩, m8⟩
  · obtain ⟨f0, b⟩ := a1
    exact ⟨f0, (y 62 (by omega)).trans b⟩
  · obtain ⟨f0, b⟩ := a2
    exact ⟨f0, (y 63 (by omega)).trans b⟩
  · obtain ⟨f0, b⟩ := a3
    exact ⟨f0, (y 64 (by omega)).trans b⟩
  · exact ⟨Nat.le_of_eq n1.symm, by show h1.1 ≤ _; omega, Nat.le_of_eq n2.symm, by show h1.2.1 ≤ _; omega, fun k hk => (y k (by omega)).trans (x k (by omega))⟩
theorem ml_R (hw : w ≠ 4) (H : ∀ {xs : Nat → Int32} {L d : Nat} {h : am_H} {s : Nat → Int32} {tv rd : Value} {wd : Int64} {lg : Nat → Int64}, mO h s tv rd wd lg td g mi dy τ → mP h s p m → s 6 = nI fed → am_m xs L (d + 10) y (.ref 58 :: av) h (fun v h' => v = some A ∧ h' = mgs h s tv rd wd lg w)) : mlV (td, fed, (tr, fl, pl), f, (g, mi, dy), τ, p, m) y av A (td, fed, (w, fl, pl), f, (g, mi, dy), τ, p, m) := by
  intro xs L d h X
  obtain ⟨s, tv, rd, wd, lg, X⟩ := X
  have X0 := X
  obtain ⟨O, hr, ⟨e1, e2, e6, e12⟩, e59, P, a1, a2, a3, h66⟩ := X0
  refine am_m_mono (H O P e6) (fun v h' ⟨e, e2⟩ => ?_)
  subst e2
  exact ⟨e, mX_put X (Or.inl rfl) (fun k hk => by rw [upd_ne (by omega), upd_ne (by omega), upd_ne (by omega)]) rfl (by rw [if_neg hw]; rfl)⟩
theorem ml_z (H : ∀ {xs : Nat → Int32} {L d : Nat} {h : am_H} {s : Nat → Int32} {tv rd : Value} {wd : Int64} {lg : Nat → Int64}, mO h s tv rd wd lg td g mi dy τ → mP h s p m → s 6 = nI fed → s 1 = tr → s 2 = (if tr = 4 then pl else -1) → s 12 = fl → am_m xs L (d + 10) y (.ref 58 :: av) h (fun v h' => v = some A ∧ h' = mz h s tv rd wd lg)) : mlV (td, fed, (tr, fl, pl), f, (g, mi, dy), τ, p, m) y av A (td, fed, (tr, fl, pl), f, (g, mi, dy), τ, p, m) := by
  intro xs L d h X
  obtain ⟨s, tv, rd, wd, lg, X⟩ := X
  have X0 := X
  obtain ⟨O, hr, ⟨e1, e2, e6, e12⟩, e59, P, a1, a2, a3, h66⟩ := X0
  refine am_m_mono (H O P e6 e1 e2 e12) (fun v h' ⟨e, e3⟩ => ?_)
  subst e3
  exact ⟨e, mX_put X (Or.inl rfl) (fun k hk => by rw [upd_ne (by omega)]) e1 e2⟩
/-- told: a query that uses rows and counters -/
theorem ml_Y (H : ∀ {xs : Nat → Int32} {L d : Nat} {h : am_H} {s : Nat → Int32} {r : Nat} {rd : Value} {wd : Int64} {lg : Nat → Int64}, ms h s r rd wd lg g mi dy τ → (∃ f0, h.2.2 62 = some (.inl (0, 3, .inl f0))) → (∃ f0, h.2.2 63 = some (.inl (0, 4096, .inl f0))) → (∃ f0, h.2.2 64 = some (.inl (0, 4096, .inl f0))) → am_m xs L (d + 10) y (.ref 58 :: av) h (fun v h' => v = some A ∧ ∃ h1, mh1 h h1 ∧ mY h1 s (.ref r) rd wd 0 h')) : mlV (true, fed, (tr, fl, pl), f, (g, mi, dy), τ, p, m) y av A (true, fed, (0, fl, pl), f, (g, mi, dy), τ, p, m) := by
  intro xs L d h X
  obtain ⟨s, tv, rd, wd, lg, X⟩ := X
  have X0 := X
  obtain ⟨O, hr, ⟨e1, e2, e6, e12⟩, e59, P, a1, a2, a3, h66⟩ := X0
  obtain ⟨r, rfl, M⟩ := O.2.1 rfl
  refine am_m_mono (H M a1 a2 a3) (fun v h' ⟨e, h1, hh, s2, lg2, e3, t0, t1, t2, t3⟩ => ?_)
  subst e3
  exact ⟨e, mX_put X hh (fun k hk => t3 k (by omega) (by omega) (by omega) (by omega)) t1 (by rw [t2]; rfl)⟩
theorem ml_A {g2 mi2 : Int32} {dy2 : Nat} {p2 m2 : pq} (H : ∀ {xs : Nat → Int32} {L d : Nat} {h : am_H} {s : Nat → Int32} {r : Nat} {rd : Value} {wd : Int64} {lg : Nat → Int64}, ms h s r rd wd lg g mi dy τ → mP h s p m → am_m xs L (d + 10) y (.ref 58 :: av) h (fun v h' => v = some A ∧ mAct h s r rd wd lg τ g2 mi2 dy2 p2 m2 h')) : mlV (true, fed, (tr, fl, pl), f, (g, mi, dy), τ, p, m) y av A (true, fed, (0, fl, pl), f, (g2, mi2, dy2), τ, p2, m2) := by
  intro xs L d h X
  obtain ⟨s, tv, rd, wd, lg, O, hr, ⟨e1, e2, e6, e12⟩, e59, P, ⟨a1, b1⟩, ⟨a2, b2⟩, ⟨a3, b3⟩, h66⟩ := X
  obtain ⟨r, rfl, M⟩ := O.2.1 rfl
  refine am_m_mono (H M P) (fun v h' ⟨e, s2, M2, P2, ⟨t1, t2, t6, t12⟩, n1, n2, x⟩ => ?_)
  refine ⟨e, ⟨s2, .ref r, rd, wd, lg, ⟨M2.1, fun _ => ⟨r, rfl, M2⟩, fun q => nomatch q⟩, fun r2 e => Nat.le_trans (hr r2 e) (Nat.le_of_eq n1.symm), ⟨t1, t2.trans rfl, t6.trans e6, t12.trans e12⟩, (x 59 (by omega) (by omega) (by omega)).trans e59, P2, ⟨a1, (x 62 (by omega) (by omega) (by omega)).trans b1⟩, ⟨a2, (x 63 (by omega) (by omega) (by omega)).trans b2⟩, ⟨a3, (x 64 (by omega) (by omega) (by omega)).trans b3⟩, Nat.le_trans h66 (Nat.le_of_eq n1.symm)⟩, ?_⟩
  exact ⟨Nat.le_of_eq n1.symm, by omega, Nat.le_of_eq n2.symm, by omega, fun k hk => x k (by omega) (by omega) (by omega)⟩
end WL
